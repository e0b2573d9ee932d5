section
/-! ===== BEGIN words of one list among another's, by their places ===== -/
theorem goodIn_r {big : List Cond} (ws : List Cond) (ps : List Nat) (hp : ws = ps.filterMap (fun i => big[i]?)) (h : ws.all goodWord = true) : GoodIn big ws := by
  intro w hw
  have h1 := List.all_eq_true.mp h w hw
  rw [hp] at hw
  obtain ⟨i, -, hi⟩ := List.mem_filterMap.mp hw
  have hm : w ∈ big := by first | exact List.mem_of_getElem? hi | exact List.getElem?_mem hi
  exact ⟨hm, good_of_word h1⟩
theorem goodIn_app {big a b : List Cond} (ha : GoodIn big a) (hb : GoodIn big b) : GoodIn big (a ++ b) := fun w h => (List.mem_append.mp h).elim (ha w) (hb w)
theorem goodIn_ca {big a b : List Cond} {c : Cond} (ha : GoodIn big (c :: a)) (hb : GoodIn big b) : GoodIn big (c :: (a ++ b)) := fun w h => (List.mem_cons.mp h).elim (fun e => ha w (List.mem_cons.mpr (Or.inl e))) (fun h => (List.mem_append.mp h).elim (fun h => ha w (List.mem_cons.mpr (Or.inr h))) (hb w))
theorem goodIn_sub {big ws : List Cond} (hm : ∀ w ∈ ws, w ∈ big) (h : ws.all goodWord = true) : GoodIn big ws := fun w hw => ⟨hm w hw, good_of_word (List.all_eq_true.mp h w hw)⟩
/-! ===== END ===== -/

/-! ===== BEGIN printed: names, fields, word lists, decode rows ===== -/
def RX0 : String := "RoadDepots$Depots"
def TX0 : u_T := fun k => match k with
  | 0 => ("RoadDepots$Depots", "land", "LRoadDepots$Land;", true)
  | _ => ("RoadDepots$Depots", "reaches", "[I", true)
def tyX0 : Nat → FieldType := fun k => match k with
  | 0 => .object "RoadDepots$Land"
  | _ => .array .int
abbrev wsX00 : List Cond := u_ws RX0 TX0 2
theorem nmX0 : ∀ a, a < 2 → ∀ b, b < 2 → a ≠ b → (TX0 a).2.1 ≠ (TX0 b).2.1 := by decide +kernel
theorem tyX0_ok : ∀ k, k < 2 → parseFieldDescriptor (TX0 k).2.2.1 = some (tyX0 k) := by decide +kernel
abbrev cX0_init : ByteArray := prog_2_method_1_code
def yX0_init : MethodName := ⟨RX0, "<init>", "(LRoadDepots$Land;)V"⟩
abbrev cX0_closest : ByteArray := prog_2_method_2_code
def yX0_closest : MethodName := ⟨RX0, "closest", "(I)I"⟩
abbrev cX0_ranked : ByteArray := prog_2_method_3_code
def yX0_ranked : MethodName := ⟨RX0, "ranked", "(II)I"⟩
abbrev cX0_countWithin : ByteArray := prog_2_method_4_code
def yX0_countWithin : MethodName := ⟨RX0, "countWithin", "(II)I"⟩
abbrev cX0_total : ByteArray := prog_2_method_5_code
def yX0_total : MethodName := ⟨RX0, "total", "(I)I"⟩
abbrev cX0_remotest : ByteArray := prog_2_method_6_code
def yX0_remotest : MethodName := ⟨RX0, "remotest", "(I)I"⟩
abbrev cX0_bestNew : ByteArray := prog_2_method_7_code
def yX0_bestNew : MethodName := ⟨RX0, "bestNew", "(I)I"⟩
abbrev cX0_countServed : ByteArray := prog_2_method_8_code
def yX0_countServed : MethodName := ⟨RX0, "countServed", "(I)I"⟩
abbrev cX0_closestTwo : ByteArray := prog_2_method_9_code
def yX0_closestTwo : MethodName := ⟨RX0, "closestTwo", "(I)I"⟩
abbrev cX0_countBefore : ByteArray := prog_2_method_10_code
def yX0_countBefore : MethodName := ⟨RX0, "countBefore", "(II)I"⟩
abbrev cX0_findReaches : ByteArray := prog_2_method_11_code
def yX0_findReaches : MethodName := ⟨RX0, "findReaches", "()V"⟩
abbrev cX0_leftWith : ByteArray := prog_2_method_12_code
def yX0_leftWith : MethodName := ⟨RX0, "leftWith", "(I)I"⟩
def RX1 : String := "RoadDepots$Land"
def TX1 : u_T := fun k => match k with
  | 0 => ("RoadDepots$Land", "roots", "[I", true)
  | 1 => ("RoadDepots$Land", "lengths", "[I", true)
  | 2 => ("RoadDepots$Land", "open", "[Z", true)
  | 3 => ("RoadDepots$Land", "gaps", "[I", true)
  | 4 => ("RoadDepots$Land", "count", "I", false)
  | _ => ("RoadDepots$Land", "openCount", "I", false)
def tyX1 : Nat → FieldType := fun k => match k with
  | 0 => .array .int
  | 1 => .array .int
  | 2 => .array .boolean
  | 3 => .array .int
  | 4 => .int
  | _ => .int
abbrev wsX10 : List Cond := u_ws RX1 TX1 6
theorem nmX1 : ∀ a, a < 6 → ∀ b, b < 6 → a ≠ b → (TX1 a).2.1 ≠ (TX1 b).2.1 := by decide +kernel
theorem tyX1_ok : ∀ k, k < 6 → parseFieldDescriptor (TX1 k).2.2.1 = some (tyX1 k) := by decide +kernel
abbrev cX1_init : ByteArray := prog_3_method_1_code
def yX1_init : MethodName := ⟨RX1, "<init>", "()V"⟩
abbrev cX1_has : ByteArray := prog_3_method_2_code
def yX1_has : MethodName := ⟨RX1, "has", "(I)Z"⟩
abbrev cX1_empty : ByteArray := prog_3_method_3_code
def yX1_empty : MethodName := ⟨RX1, "empty", "()I"⟩
abbrev cX1_settle : ByteArray := prog_3_method_4_code
def yX1_settle : MethodName := ⟨RX1, "settle", "(II)I"⟩
abbrev cX1_setDepot : ByteArray := prog_3_method_5_code
def yX1_setDepot : MethodName := ⟨RX1, "setDepot", "(IZ)I"⟩
abbrev cX1_setRoad : ByteArray := prog_3_method_6_code
def yX1_setRoad : MethodName := ⟨RX1, "setRoad", "(II)I"⟩
abbrev cX1_sow : ByteArray := prog_3_method_7_code
def yX1_sow : MethodName := ⟨RX1, "sow", "(II)I"⟩
abbrev cX1_aspect : ByteArray := prog_3_method_8_code
def yX1_aspect : MethodName := ⟨RX1, "aspect", "(II)I"⟩
abbrev cX1_gap : ByteArray := prog_3_method_9_code
def yX1_gap : MethodName := ⟨RX1, "gap", "(II)I"⟩
abbrev cX1_countRoads : ByteArray := prog_3_method_10_code
def yX1_countRoads : MethodName := ⟨RX1, "countRoads", "(I)I"⟩
abbrev cX1_measure : ByteArray := prog_3_method_11_code
def yX1_measure : MethodName := ⟨RX1, "measure", "(I)V"⟩
def RX2 : String := "RoadDepots$Line"
def TX2 : u_T := fun k => match k with
  | 0 => ("RoadDepots$Line", "signs", "[B", true)
  | _ => ("RoadDepots$Line", "size", "I", false)
def tyX2 : Nat → FieldType := fun k => match k with
  | 0 => .array .byte
  | _ => .int
abbrev wsX20 : List Cond := u_ws RX2 TX2 2
theorem nmX2 : ∀ a, a < 2 → ∀ b, b < 2 → a ≠ b → (TX2 a).2.1 ≠ (TX2 b).2.1 := by decide +kernel
theorem tyX2_ok : ∀ k, k < 2 → parseFieldDescriptor (TX2 k).2.2.1 = some (tyX2 k) := by decide +kernel
abbrev cX2_init : ByteArray := prog_4_method_1_code
def yX2_init : MethodName := ⟨RX2, "<init>", "()V"⟩
abbrev cX2_empty : ByteArray := prog_4_method_2_code
def yX2_empty : MethodName := ⟨RX2, "empty", "()V"⟩
abbrev cX2_put : ByteArray := prog_4_method_3_code
def yX2_put : MethodName := ⟨RX2, "put", "(I)V"⟩
abbrev cX2_putNumber : ByteArray := prog_4_method_4_code
def yX2_putNumber : MethodName := ⟨RX2, "putNumber", "(I)V"⟩
def RX3 : String := "RoadDepots$Reader"
def TX3 : u_T := fun k => match k with
  | 0 => ("RoadDepots$Reader", "words", "[I", true)
  | 1 => ("RoadDepots$Reader", "firsts", "[I", true)
  | 2 => ("RoadDepots$Reader", "seconds", "[I", true)
  | 3 => ("RoadDepots$Reader", "count", "I", false)
  | 4 => ("RoadDepots$Reader", "text", "LRoadDepots$Text;", true)
  | 5 => ("RoadDepots$Reader", "place", "I", false)
  | 6 => ("RoadDepots$Reader", "fault", "I", false)
  | _ => ("RoadDepots$Reader", "villages", "I", false)
def tyX3 : Nat → FieldType := fun k => match k with
  | 0 => .array .int
  | 1 => .array .int
  | 2 => .array .int
  | 3 => .int
  | 4 => .object "RoadDepots$Text"
  | 5 => .int
  | 6 => .int
  | _ => .int
abbrev wsX30 : List Cond := u_ws RX3 TX3 8
theorem nmX3 : ∀ a, a < 8 → ∀ b, b < 8 → a ≠ b → (TX3 a).2.1 ≠ (TX3 b).2.1 := by decide +kernel
theorem tyX3_ok : ∀ k, k < 8 → parseFieldDescriptor (TX3 k).2.2.1 = some (tyX3 k) := by decide +kernel
abbrev cX3_init : ByteArray := prog_5_method_1_code
def yX3_init : MethodName := ⟨RX3, "<init>", "(LRoadDepots$Text;)V"⟩
abbrev cX3_read : ByteArray := prog_5_method_2_code
def yX3_read : MethodName := ⟨RX3, "read", "(I)I"⟩
abbrev cX3_readSentence : ByteArray := prog_5_method_3_code
def yX3_readSentence : MethodName := ⟨RX3, "readSentence", "()V"⟩
abbrev cX3_readWord : ByteArray := prog_5_method_4_code
def yX3_readWord : MethodName := ⟨RX3, "readWord", "()I"⟩
abbrev cX3_readNumber : ByteArray := prog_5_method_5_code
def yX3_readNumber : MethodName := ⟨RX3, "readNumber", "(I)I"⟩
abbrev cX3_readEnd : ByteArray := prog_5_method_6_code
def yX3_readEnd : MethodName := ⟨RX3, "readEnd", "()V"⟩
abbrev cX3_keep : ByteArray := prog_5_method_7_code
def yX3_keep : MethodName := ⟨RX3, "keep", "(III)V"⟩
abbrev cX3_skipBlanks : ByteArray := prog_5_method_8_code
def yX3_skipBlanks : MethodName := ⟨RX3, "skipBlanks", "()V"⟩
def RX4 : String := "RoadDepots$Teller"
def TX4 : u_T := fun k => match k with
  | 0 => ("RoadDepots$Teller", "land", "LRoadDepots$Land;", true)
  | 1 => ("RoadDepots$Teller", "ways", "LRoadDepots$Ways;", true)
  | 2 => ("RoadDepots$Teller", "depots", "LRoadDepots$Depots;", true)
  | _ => ("RoadDepots$Teller", "line", "LRoadDepots$Line;", true)
def tyX4 : Nat → FieldType := fun k => match k with
  | 0 => .object "RoadDepots$Land"
  | 1 => .object "RoadDepots$Ways"
  | 2 => .object "RoadDepots$Depots"
  | _ => .object "RoadDepots$Line"
abbrev wsX40 : List Cond := u_ws RX4 TX4 4
theorem nmX4 : ∀ a, a < 4 → ∀ b, b < 4 → a ≠ b → (TX4 a).2.1 ≠ (TX4 b).2.1 := by decide +kernel
theorem tyX4_ok : ∀ k, k < 4 → parseFieldDescriptor (TX4 k).2.2.1 = some (tyX4 k) := by decide +kernel
abbrev cX4_init : ByteArray := prog_6_method_1_code
def yX4_init : MethodName := ⟨RX4, "<init>", "(LRoadDepots$Land;LRoadDepots$Ways;LRoadDepots$Depots;LRoadDepots$Line;)V"⟩
abbrev cX4_tell : ByteArray := prog_6_method_2_code
def yX4_tell : MethodName := ⟨RX4, "tell", "(III)V"⟩
abbrev cX4_tellNearest : ByteArray := prog_6_method_3_code
def yX4_tellNearest : MethodName := ⟨RX4, "tellNearest", "(I)V"⟩
abbrev cX4_tellWay : ByteArray := prog_6_method_4_code
def yX4_tellWay : MethodName := ⟨RX4, "tellWay", "(II)V"⟩
abbrev cX4_tellAll : ByteArray := prog_6_method_5_code
def yX4_tellAll : MethodName := ⟨RX4, "tellAll", "()V"⟩
def RX5 : String := "RoadDepots$Text"
def TX5 : u_T := fun k => match k with
  | 0 => ("RoadDepots$Text", "bytes", "[B", true)
  | _ => ("RoadDepots$Text", "size", "I", false)
def tyX5 : Nat → FieldType := fun k => match k with
  | 0 => .array .byte
  | _ => .int
abbrev wsX50 : List Cond := u_ws RX5 TX5 2
theorem nmX5 : ∀ a, a < 2 → ∀ b, b < 2 → a ≠ b → (TX5 a).2.1 ≠ (TX5 b).2.1 := by decide +kernel
theorem tyX5_ok : ∀ k, k < 2 → parseFieldDescriptor (TX5 k).2.2.1 = some (tyX5 k) := by decide +kernel
abbrev cX5_init : ByteArray := prog_7_method_1_code
def yX5_init : MethodName := ⟨RX5, "<init>", "()V"⟩
abbrev cX5_put : ByteArray := prog_7_method_2_code
def yX5_put : MethodName := ⟨RX5, "put", "(I)I"⟩
abbrev cX5_empty : ByteArray := prog_7_method_3_code
def yX5_empty : MethodName := ⟨RX5, "empty", "()I"⟩
abbrev cX5_byteAt : ByteArray := prog_7_method_4_code
def yX5_byteAt : MethodName := ⟨RX5, "byteAt", "(I)I"⟩
abbrev cX5_isLetter : ByteArray := prog_7_method_5_code
def yX5_isLetter : MethodName := ⟨RX5, "isLetter", "(I)Z"⟩
abbrev cX5_isFigure : ByteArray := prog_7_method_6_code
def yX5_isFigure : MethodName := ⟨RX5, "isFigure", "(I)Z"⟩
abbrev cX5_isWord : ByteArray := prog_7_method_7_code
def yX5_isWord : MethodName := ⟨RX5, "isWord", "(IILjava/lang/String;)Z"⟩
def RX6 : String := "RoadDepots$Ways"
def TX6 : u_T := fun k => match k with
  | 0 => ("RoadDepots$Ways", "land", "LRoadDepots$Land;", true)
  | 1 => ("RoadDepots$Ways", "trail", "[I", true)
  | 2 => ("RoadDepots$Ways", "steps", "I", false)
  | _ => ("RoadDepots$Ways", "weights", "[I", true)
def tyX6 : Nat → FieldType := fun k => match k with
  | 0 => .object "RoadDepots$Land"
  | 1 => .array .int
  | 2 => .int
  | _ => .array .int
abbrev wsX60 : List Cond := u_ws RX6 TX6 4
theorem nmX6 : ∀ a, a < 4 → ∀ b, b < 4 → a ≠ b → (TX6 a).2.1 ≠ (TX6 b).2.1 := by decide +kernel
theorem tyX6_ok : ∀ k, k < 4 → parseFieldDescriptor (TX6 k).2.2.1 = some (tyX6 k) := by decide +kernel
abbrev cX6_init : ByteArray := prog_8_method_1_code
def yX6_init : MethodName := ⟨RX6, "<init>", "(LRoadDepots$Land;)V"⟩
abbrev cX6_walk : ByteArray := prog_8_method_2_code
def yX6_walk : MethodName := ⟨RX6, "walk", "(II)V"⟩
abbrev cX6_span : ByteArray := prog_8_method_3_code
def yX6_span : MethodName := ⟨RX6, "span", "(I)I"⟩
abbrev cX6_heart : ByteArray := prog_8_method_4_code
def yX6_heart : MethodName := ⟨RX6, "heart", "(I)I"⟩
abbrev cX6_burden : ByteArray := prog_8_method_5_code
def yX6_burden : MethodName := ⟨RX6, "burden", "(II)I"⟩
abbrev cX6_farthest : ByteArray := prog_8_method_6_code
def yX6_farthest : MethodName := ⟨RX6, "farthest", "(I)I"⟩
abbrev cX6_distanceOfAll : ByteArray := prog_8_method_7_code
def yX6_distanceOfAll : MethodName := ⟨RX6, "distanceOfAll", "(I)I"⟩
abbrev cX6_greatestRest : ByteArray := prog_8_method_8_code
def yX6_greatestRest : MethodName := ⟨RX6, "greatestRest", "(I)I"⟩
abbrev cX6_weigh : ByteArray := prog_8_method_9_code
def yX6_weigh : MethodName := ⟨RX6, "weigh", "()V"⟩
def RX7 : String := "RoadDepots$Words"
def TX7 : u_T := fun k => match k with
  | _ => ("", "", "", false)
def tyX7 : Nat → FieldType := fun k => match k with
  | _ => .int
abbrev wsX70 : List Cond := u_ws RX7 TX7 0
theorem nmX7 : ∀ a, a < 0 → ∀ b, b < 0 → a ≠ b → (TX7 a).2.1 ≠ (TX7 b).2.1 := by decide +kernel
theorem tyX7_ok : ∀ k, k < 0 → parseFieldDescriptor (TX7 k).2.2.1 = some (tyX7 k) := by decide +kernel
abbrev cX7_find : ByteArray := prog_9_method_2_code
def yX7_find : MethodName := ⟨RX7, "find", "(LRoadDepots$Text;II)I"⟩
abbrev cX7_firstNeed : ByteArray := prog_9_method_3_code
def yX7_firstNeed : MethodName := ⟨RX7, "firstNeed", "(I)I"⟩
abbrev cX7_secondNeed : ByteArray := prog_9_method_4_code
def yX7_secondNeed : MethodName := ⟨RX7, "secondNeed", "(I)I"⟩
abbrev cX7_suits : ByteArray := prog_9_method_5_code
def yX7_suits : MethodName := ⟨RX7, "suits", "(III)Z"⟩
abbrev cX7_spelling : ByteArray := prog_9_method_6_code
def yX7_spelling : MethodName := ⟨RX7, "spelling", "(I)Ljava/lang/String;"⟩
def RX8 : String := "RoadDepots"
def TX8 : u_T := fun k => match k with
  | 0 => ("RoadDepots", "land", "LRoadDepots$Land;", true)
  | 1 => ("RoadDepots", "ways", "LRoadDepots$Ways;", true)
  | 2 => ("RoadDepots", "depots", "LRoadDepots$Depots;", true)
  | 3 => ("RoadDepots", "text", "LRoadDepots$Text;", true)
  | 4 => ("RoadDepots", "reader", "LRoadDepots$Reader;", true)
  | 5 => ("RoadDepots", "line", "LRoadDepots$Line;", true)
  | 6 => ("RoadDepots", "teller", "LRoadDepots$Teller;", true)
  | 7 => ("RoadDepots", "badCalls", "I", false)
  | _ => ("RoadDepots", "fullCalls", "I", false)
def tyX8 : Nat → FieldType := fun k => match k with
  | 0 => .object "RoadDepots$Land"
  | 1 => .object "RoadDepots$Ways"
  | 2 => .object "RoadDepots$Depots"
  | 3 => .object "RoadDepots$Text"
  | 4 => .object "RoadDepots$Reader"
  | 5 => .object "RoadDepots$Line"
  | 6 => .object "RoadDepots$Teller"
  | 7 => .int
  | _ => .int
abbrev wsX80 : List Cond := u_ws RX8 TX8 9
theorem nmX8 : ∀ a, a < 9 → ∀ b, b < 9 → a ≠ b → (TX8 a).2.1 ≠ (TX8 b).2.1 := by decide +kernel
theorem tyX8_ok : ∀ k, k < 9 → parseFieldDescriptor (TX8 k).2.2.1 = some (tyX8 k) := by decide +kernel
abbrev cX8_init : ByteArray := prog_1_method_1_code
def yX8_init : MethodName := ⟨RX8, "<init>", "()V"⟩
abbrev cX8_add : ByteArray := prog_1_method_2_code
def yX8_add : MethodName := ⟨RX8, "add", "(II)I"⟩
abbrev cX8_depot : ByteArray := prog_1_method_3_code
def yX8_depot : MethodName := ⟨RX8, "depot", "(II)I"⟩
abbrev cX8_road : ByteArray := prog_1_method_4_code
def yX8_road : MethodName := ⟨RX8, "road", "(II)I"⟩
abbrev cX8_anew : ByteArray := prog_1_method_5_code
def yX8_anew : MethodName := ⟨RX8, "anew", "()I"⟩
abbrev cX8_draw : ByteArray := prog_1_method_6_code
def yX8_draw : MethodName := ⟨RX8, "draw", "(II)I"⟩
abbrev cX8_of : ByteArray := prog_1_method_7_code
def yX8_of : MethodName := ⟨RX8, "of", "(II)I"⟩
abbrev cX8_far : ByteArray := prog_1_method_8_code
def yX8_far : MethodName := ⟨RX8, "far", "(II)I"⟩
abbrev cX8_way : ByteArray := prog_1_method_9_code
def yX8_way : MethodName := ⟨RX8, "way", "(III)I"⟩
abbrev cX8_longest : ByteArray := prog_1_method_10_code
def yX8_longest : MethodName := ⟨RX8, "longest", "(I)I"⟩
abbrev cX8_middle : ByteArray := prog_1_method_11_code
def yX8_middle : MethodName := ⟨RX8, "middle", "(I)I"⟩
abbrev cX8_nearest : ByteArray := prog_1_method_12_code
def yX8_nearest : MethodName := ⟨RX8, "nearest", "(II)I"⟩
abbrev cX8_turn : ByteArray := prog_1_method_13_code
def yX8_turn : MethodName := ⟨RX8, "turn", "(III)I"⟩
abbrev cX8_within : ByteArray := prog_1_method_14_code
def yX8_within : MethodName := ⟨RX8, "within", "(II)I"⟩
abbrev cX8_sum : ByteArray := prog_1_method_15_code
def yX8_sum : MethodName := ⟨RX8, "sum", "(I)I"⟩
abbrev cX8_left : ByteArray := prog_1_method_16_code
def yX8_left : MethodName := ⟨RX8, "left", "(I)I"⟩
abbrev cX8_more : ByteArray := prog_1_method_17_code
def yX8_more : MethodName := ⟨RX8, "more", "(I)I"⟩
abbrev cX8_serves : ByteArray := prog_1_method_18_code
def yX8_serves : MethodName := ⟨RX8, "serves", "(I)I"⟩
abbrev cX8_pair : ByteArray := prog_1_method_19_code
def yX8_pair : MethodName := ⟨RX8, "pair", "(I)I"⟩
abbrev cX8_type : ByteArray := prog_1_method_20_code
def yX8_type : MethodName := ⟨RX8, "type", "(I)I"⟩
abbrev cX8_clear : ByteArray := prog_1_method_21_code
def yX8_clear : MethodName := ⟨RX8, "clear", "()I"⟩
abbrev cX8_says : ByteArray := prog_1_method_22_code
def yX8_says : MethodName := ⟨RX8, "says", "()I"⟩
abbrev cX8_answer : ByteArray := prog_1_method_23_code
def yX8_answer : MethodName := ⟨RX8, "answer", "(I)I"⟩
abbrev cX8_told : ByteArray := prog_1_method_24_code
def yX8_told : MethodName := ⟨RX8, "told", "(I)I"⟩
abbrev cX8_digest : ByteArray := prog_1_method_25_code
def yX8_digest : MethodName := ⟨RX8, "digest", "()J"⟩
abbrev cX8_tally : ByteArray := prog_1_method_26_code
def yX8_tally : MethodName := ⟨RX8, "tally", "(I)I"⟩
abbrev cX8_whichOrFar : ByteArray := prog_1_method_27_code
def yX8_whichOrFar : MethodName := ⟨RX8, "whichOrFar", "(III)I"⟩
abbrev cX8_refuseBad : ByteArray := prog_1_method_28_code
def yX8_refuseBad : MethodName := ⟨RX8, "refuseBad", "()I"⟩
abbrev cX8_refuseBadPlace : ByteArray := prog_1_method_29_code
def yX8_refuseBadPlace : MethodName := ⟨RX8, "refuseBadPlace", "()I"⟩
abbrev cX8_refuseFull : ByteArray := prog_1_method_30_code
def yX8_refuseFull : MethodName := ⟨RX8, "refuseFull", "()I"⟩
abbrev cX8_isUpTo : ByteArray := prog_1_method_31_code
def yX8_isUpTo : MethodName := ⟨RX8, "isUpTo", "(II)Z"⟩
abbrev cX8_isLength : ByteArray := prog_1_method_32_code
def yX8_isLength : MethodName := ⟨RX8, "isLength", "(I)Z"⟩
def RX9 : String := "RoadDepotsModel"
def TX9 : u_T := fun k => match k with
  | 0 => ("RoadDepotsModel", "villages", "I", false)
  | 1 => ("RoadDepotsModel", "roots", "[I", true)
  | 2 => ("RoadDepotsModel", "lengths", "[I", true)
  | 3 => ("RoadDepotsModel", "isOpen", "[Z", true)
  | 4 => ("RoadDepotsModel", "bad", "I", false)
  | 5 => ("RoadDepotsModel", "full", "I", false)
  | 6 => ("RoadDepotsModel", "length", "I", false)
  | 7 => ("RoadDepotsModel", "text", "[I", true)
  | 8 => ("RoadDepotsModel", "signs", "I", false)
  | 9 => ("RoadDepotsModel", "answer", "[I", true)
  | 10 => ("RoadDepotsModel", "wayMany", "I", false)
  | 11 => ("RoadDepotsModel", "ways", "[I", true)
  | 12 => ("RoadDepotsModel", "sizes", "[I", true)
  | 13 => ("RoadDepotsModel", "leftVillage", "I", false)
  | 14 => ("RoadDepotsModel", "spot", "I", false)
  | 15 => ("RoadDepotsModel", "begins", "I", false)
  | 16 => ("RoadDepotsModel", "token", "I", false)
  | 17 => ("RoadDepotsModel", "value", "I", false)
  | 18 => ("RoadDepotsModel", "word", "I", false)
  | 19 => ("RoadDepotsModel", "numberMany", "I", false)
  | 20 => ("RoadDepotsModel", "numbers", "[I", true)
  | _ => ("RoadDepotsModel", "then", "I", false)
def tyX9 : Nat → FieldType := fun k => match k with
  | 0 => .int
  | 1 => .array .int
  | 2 => .array .int
  | 3 => .array .boolean
  | 4 => .int
  | 5 => .int
  | 6 => .int
  | 7 => .array .int
  | 8 => .int
  | 9 => .array .int
  | 10 => .int
  | 11 => .array .int
  | 12 => .array .int
  | 13 => .int
  | 14 => .int
  | 15 => .int
  | 16 => .int
  | 17 => .int
  | 18 => .int
  | 19 => .int
  | 20 => .array .int
  | _ => .int
abbrev wsX90 : List Cond := u_ws RX9 TX9 22
theorem nmX9 : ∀ a, a < 22 → ∀ b, b < 22 → a ≠ b → (TX9 a).2.1 ≠ (TX9 b).2.1 := by decide +kernel
theorem tyX9_ok : ∀ k, k < 22 → parseFieldDescriptor (TX9 k).2.2.1 = some (tyX9 k) := by decide +kernel
abbrev cX9_init : ByteArray := prog_11_method_1_code
def yX9_init : MethodName := ⟨RX9, "<init>", "()V"⟩
abbrev cX9_in : ByteArray := prog_11_method_2_code
def yX9_in : MethodName := ⟨RX9, "in", "(JJJ)Z"⟩
abbrev cX9_isVillage : ByteArray := prog_11_method_3_code
def yX9_isVillage : MethodName := ⟨RX9, "isVillage", "(I)Z"⟩
abbrev cX9_refuse : ByteArray := prog_11_method_4_code
def yX9_refuse : MethodName := ⟨RX9, "refuse", "()I"⟩
abbrev cX9_refuseFull : ByteArray := prog_11_method_5_code
def yX9_refuseFull : MethodName := ⟨RX9, "refuseFull", "()I"⟩
abbrev cX9_come : ByteArray := prog_11_method_6_code
def yX9_come : MethodName := ⟨RX9, "come", "(II)I"⟩
abbrev cX9_add : ByteArray := prog_11_method_7_code
def yX9_add : MethodName := ⟨RX9, "add", "(II)I"⟩
abbrev cX9_becomes : ByteArray := prog_11_method_8_code
def yX9_becomes : MethodName := ⟨RX9, "becomes", "(IZ)I"⟩
abbrev cX9_depot : ByteArray := prog_11_method_9_code
def yX9_depot : MethodName := ⟨RX9, "depot", "(II)I"⟩
abbrev cX9_lengthen : ByteArray := prog_11_method_10_code
def yX9_lengthen : MethodName := ⟨RX9, "lengthen", "(II)I"⟩
abbrev cX9_road : ByteArray := prog_11_method_11_code
def yX9_road : MethodName := ⟨RX9, "road", "(II)I"⟩
abbrev cX9_anew : ByteArray := prog_11_method_12_code
def yX9_anew : MethodName := ⟨RX9, "anew", "()I"⟩
abbrev cX9_draw : ByteArray := prog_11_method_13_code
def yX9_draw : MethodName := ⟨RX9, "draw", "(II)I"⟩
abbrev cX9_of : ByteArray := prog_11_method_14_code
def yX9_of : MethodName := ⟨RX9, "of", "(II)I"⟩
abbrev cX9_partOf : ByteArray := prog_11_method_15_code
def yX9_partOf : MethodName := ⟨RX9, "partOf", "(II)I"⟩
abbrev cX9_farFrom : ByteArray := prog_11_method_16_code
def yX9_farFrom : MethodName := ⟨RX9, "farFrom", "(II)I"⟩
abbrev cX9_far : ByteArray := prog_11_method_17_code
def yX9_far : MethodName := ⟨RX9, "far", "(II)I"⟩
abbrev cX9_findWay : ByteArray := prog_11_method_18_code
def yX9_findWay : MethodName := ⟨RX9, "findWay", "(II)V"⟩
abbrev cX9_way : ByteArray := prog_11_method_19_code
def yX9_way : MethodName := ⟨RX9, "way", "(III)I"⟩
abbrev cX9_farthest : ByteArray := prog_11_method_20_code
def yX9_farthest : MethodName := ⟨RX9, "farthest", "(I)I"⟩
abbrev cX9_longest : ByteArray := prog_11_method_21_code
def yX9_longest : MethodName := ⟨RX9, "longest", "(I)I"⟩
abbrev cX9_sumFrom : ByteArray := prog_11_method_22_code
def yX9_sumFrom : MethodName := ⟨RX9, "sumFrom", "(I)I"⟩
abbrev cX9_restOf : ByteArray := prog_11_method_23_code
def yX9_restOf : MethodName := ⟨RX9, "restOf", "(I)I"⟩
abbrev cX9_middle : ByteArray := prog_11_method_24_code
def yX9_middle : MethodName := ⟨RX9, "middle", "(I)I"⟩
abbrev cX9_openMany : ByteArray := prog_11_method_25_code
def yX9_openMany : MethodName := ⟨RX9, "openMany", "()I"⟩
abbrev cX9_nearestOf : ByteArray := prog_11_method_26_code
def yX9_nearestOf : MethodName := ⟨RX9, "nearestOf", "(I)I"⟩
abbrev cX9_nearest : ByteArray := prog_11_method_27_code
def yX9_nearest : MethodName := ⟨RX9, "nearest", "(II)I"⟩
abbrev cX9_turn : ByteArray := prog_11_method_28_code
def yX9_turn : MethodName := ⟨RX9, "turn", "(III)I"⟩
abbrev cX9_manyWithin : ByteArray := prog_11_method_29_code
def yX9_manyWithin : MethodName := ⟨RX9, "manyWithin", "(II)I"⟩
abbrev cX9_within : ByteArray := prog_11_method_30_code
def yX9_within : MethodName := ⟨RX9, "within", "(II)I"⟩
abbrev cX9_sumOfOpen : ByteArray := prog_11_method_31_code
def yX9_sumOfOpen : MethodName := ⟨RX9, "sumOfOpen", "(I)I"⟩
abbrev cX9_sum : ByteArray := prog_11_method_32_code
def yX9_sum : MethodName := ⟨RX9, "sum", "(I)I"⟩
abbrev cX9_findLeft : ByteArray := prog_11_method_33_code
def yX9_findLeft : MethodName := ⟨RX9, "findLeft", "()I"⟩
abbrev cX9_left : ByteArray := prog_11_method_34_code
def yX9_left : MethodName := ⟨RX9, "left", "(I)I"⟩
abbrev cX9_more : ByteArray := prog_11_method_35_code
def yX9_more : MethodName := ⟨RX9, "more", "(I)I"⟩
abbrev cX9_serves : ByteArray := prog_11_method_36_code
def yX9_serves : MethodName := ⟨RX9, "serves", "(I)I"⟩
abbrev cX9_pair : ByteArray := prog_11_method_37_code
def yX9_pair : MethodName := ⟨RX9, "pair", "(I)I"⟩
abbrev cX9_type : ByteArray := prog_11_method_38_code
def yX9_type : MethodName := ⟨RX9, "type", "(I)I"⟩
abbrev cX9_clear : ByteArray := prog_11_method_39_code
def yX9_clear : MethodName := ⟨RX9, "clear", "()I"⟩
abbrev cX9_isFigure : ByteArray := prog_11_method_40_code
def yX9_isFigure : MethodName := ⟨RX9, "isFigure", "(I)Z"⟩
abbrev cX9_isLetter : ByteArray := prog_11_method_41_code
def yX9_isLetter : MethodName := ⟨RX9, "isLetter", "(I)Z"⟩
abbrev cX9_next : ByteArray := prog_11_method_42_code
def yX9_next : MethodName := ⟨RX9, "next", "()V"⟩
abbrev cX9_manyOf : ByteArray := prog_11_method_43_code
def yX9_manyOf : MethodName := ⟨RX9, "manyOf", "(I)I"⟩
abbrev cX9_mayBe : ByteArray := prog_11_method_44_code
def yX9_mayBe : MethodName := ⟨RX9, "mayBe", "(II)Z"⟩
abbrev cX9_isSentence : ByteArray := prog_11_method_45_code
def yX9_isSentence : MethodName := ⟨RX9, "isSentence", "()Z"⟩
abbrev cX9_isMore : ByteArray := prog_11_method_46_code
def yX9_isMore : MethodName := ⟨RX9, "isMore", "()Z"⟩
abbrev cX9_putSign : ByteArray := prog_11_method_47_code
def yX9_putSign : MethodName := ⟨RX9, "putSign", "(I)V"⟩
abbrev cX9_putNumber : ByteArray := prog_11_method_48_code
def yX9_putNumber : MethodName := ⟨RX9, "putNumber", "(I)V"⟩
abbrev cX9_sayWay : ByteArray := prog_11_method_49_code
def yX9_sayWay : MethodName := ⟨RX9, "sayWay", "()V"⟩
abbrev cX9_sayAll : ByteArray := prog_11_method_50_code
def yX9_sayAll : MethodName := ⟨RX9, "sayAll", "()V"⟩
abbrev cX9_sayNear : ByteArray := prog_11_method_51_code
def yX9_sayNear : MethodName := ⟨RX9, "sayNear", "()V"⟩
abbrev cX9_say : ByteArray := prog_11_method_52_code
def yX9_say : MethodName := ⟨RX9, "say", "()V"⟩
abbrev cX9_says : ByteArray := prog_11_method_53_code
def yX9_says : MethodName := ⟨RX9, "says", "()I"⟩
abbrev cX9_answer : ByteArray := prog_11_method_54_code
def yX9_answer : MethodName := ⟨RX9, "answer", "(I)I"⟩
abbrev cX9_tell : ByteArray := prog_11_method_55_code
def yX9_tell : MethodName := ⟨RX9, "tell", "(I)I"⟩
abbrev cX9_told : ByteArray := prog_11_method_56_code
def yX9_told : MethodName := ⟨RX9, "told", "(I)I"⟩
abbrev cX9_digest : ByteArray := prog_11_method_57_code
def yX9_digest : MethodName := ⟨RX9, "digest", "()J"⟩
def RJ9 : String := "java/lang/Math"
def TJ9 : u_T := fun k => match k with
  | _ => ("", "", "", false)
def tyJ9 : Nat → FieldType := fun k => match k with
  | _ => .int
abbrev wsJ90 : List Cond := u_ws RJ9 TJ9 0
theorem nmJ9 : ∀ a, a < 0 → ∀ b, b < 0 → a ≠ b → (TJ9 a).2.1 ≠ (TJ9 b).2.1 := by decide +kernel
theorem tyJ9_ok : ∀ k, k < 0 → parseFieldDescriptor (TJ9 k).2.2.1 = some (tyJ9 k) := by decide +kernel
abbrev cJ9_max_7cf53 : ByteArray := prog_12_method_65_code
def yJ9_max_7cf53 : MethodName := ⟨RJ9, "max", "(II)I"⟩
abbrev cJ9_min_7cf53 : ByteArray := prog_12_method_69_code
def yJ9_min_7cf53 : MethodName := ⟨RJ9, "min", "(II)I"⟩
def RJ0 : String := "java/lang/String"
def TJ0 : u_T := fun k => match k with
  | _ => ("", "", "", false)
def tyJ0 : Nat → FieldType := fun k => match k with
  | _ => .int
abbrev wsJ00 : List Cond := u_ws RJ0 TJ0 0
theorem nmJ0 : ∀ a, a < 0 → ∀ b, b < 0 → a ≠ b → (TJ0 a).2.1 ≠ (TJ0 b).2.1 := by decide +kernel
theorem tyJ0_ok : ∀ k, k < 0 → parseFieldDescriptor (TJ0 k).2.2.1 = some (tyJ0 k) := by decide +kernel
abbrev cJ0_length_8abf5 : ByteArray := prog_13_method_54_code
def yJ0_length_8abf5 : MethodName := ⟨RJ0, "length", "()I"⟩
abbrev cJ0_charAt_5068e : ByteArray := prog_13_method_56_code
def yJ0_charAt_5068e : MethodName := ⟨RJ0, "charAt", "(I)C"⟩
abbrev cJ0_coder_7d493 : ByteArray := prog_13_method_152_code
def yJ0_coder_7d493 : MethodName := ⟨RJ0, "coder", "()B"⟩
abbrev cJ0_isLatin1_aae02 : ByteArray := prog_13_method_154_code
def yJ0_isLatin1_aae02 : MethodName := ⟨RJ0, "isLatin1", "()Z"⟩
abbrev cJ0_checkIndex_df160 : ByteArray := prog_13_method_155_code
def yJ0_checkIndex_df160 : MethodName := ⟨RJ0, "checkIndex", "(II)V"⟩
def RJ1 : String := "java/lang/StringLatin1"
def TJ1 : u_T := fun k => match k with
  | _ => ("", "", "", false)
def tyJ1 : Nat → FieldType := fun k => match k with
  | _ => .int
abbrev wsJ10 : List Cond := u_ws RJ1 TJ1 0
theorem nmJ1 : ∀ a, a < 0 → ∀ b, b < 0 → a ≠ b → (TJ1 a).2.1 ≠ (TJ1 b).2.1 := by decide +kernel
theorem tyJ1_ok : ∀ k, k < 0 → parseFieldDescriptor (TJ1 k).2.2.1 = some (tyJ1 k) := by decide +kernel
abbrev cJ1_charAt_3b067 : ByteArray := prog_14_method_2_code
def yJ1_charAt_3b067 : MethodName := ⟨RJ1, "charAt", "([BI)C"⟩
def RJ2 : String := "java/lang/StringUTF16"
def TJ2 : u_T := fun k => match k with
  | _ => ("", "", "", false)
def tyJ2 : Nat → FieldType := fun k => match k with
  | _ => .int
abbrev wsJ20 : List Cond := u_ws RJ2 TJ2 0
theorem nmJ2 : ∀ a, a < 0 → ∀ b, b < 0 → a ≠ b → (TJ2 a).2.1 ≠ (TJ2 b).2.1 := by decide +kernel
theorem tyJ2_ok : ∀ k, k < 0 → parseFieldDescriptor (TJ2 k).2.2.1 = some (tyJ2 k) := by decide +kernel
abbrev cJ2_getChar_3b067 : ByteArray := prog_15_method_5_code
def yJ2_getChar_3b067 : MethodName := ⟨RJ2, "getChar", "([BI)C"⟩
abbrev cJ2_length_9d52b : ByteArray := prog_15_method_6_code
def yJ2_length_9d52b : MethodName := ⟨RJ2, "length", "([B)I"⟩
abbrev cJ2_charAt_3b067 : ByteArray := prog_15_method_83_code
def yJ2_charAt_3b067 : MethodName := ⟨RJ2, "charAt", "([BI)C"⟩
abbrev cJ2_checkIndex_2214a : ByteArray := prog_15_method_91_code
def yJ2_checkIndex_2214a : MethodName := ⟨RJ2, "checkIndex", "(I[B)V"⟩
def RJ3 : String := "jdk/internal/util/Preconditions"
def TJ3 : u_T := fun k => match k with
  | _ => ("", "", "", false)
def tyJ3 : Nat → FieldType := fun k => match k with
  | _ => .int
abbrev wsJ30 : List Cond := u_ws RJ3 TJ3 0
theorem nmJ3 : ∀ a, a < 0 → ∀ b, b < 0 → a ≠ b → (TJ3 a).2.1 ≠ (TJ3 b).2.1 := by decide +kernel
theorem tyJ3_ok : ∀ k, k < 0 → parseFieldDescriptor (TJ3 k).2.2.1 = some (tyJ3 k) := by decide +kernel
abbrev cJ3_checkIndex_8e157 : ByteArray := prog_16_method_11_code
def yJ3_checkIndex_8e157 : MethodName := ⟨RJ3, "checkIndex", "(IILjava/util/function/BiFunction;)I"⟩
def RL : String := "RoadDepotsLaw"
abbrev cL_law : ByteArray := code
def yL_law : MethodName := ⟨RL, "law", "([I)Z"⟩
def wsX0_init : List Cond := .code yX0_init cX0_init 2 none :: ([.methodLink RX0 3 objectInit, .instanceMethod objectInit, .code objectInit ⟨#[0xb1]⟩ 1 none, .arrayClass .int, .fieldLink RX0 9 "RoadDepots$Depots" "reaches" "[I", .fieldLink RX0 15 "RoadDepots$Depots" "land" "LRoadDepots$Land;"] ++ wsX00)
def wsX1_gap : List Cond := .code yX1_gap cX1_gap 3 (some .int) :: ([.fieldLink RX1 22 "RoadDepots$Land" "gaps" "[I"] ++ wsX10)
def wsX0_closest : List Cond := .code yX0_closest cX0_closest 5 (some .int) :: ([.constant RX0 19 (1000000), .fieldLink RX0 15 "RoadDepots$Depots" "land" "LRoadDepots$Land;", .fieldLink RX0 20 "RoadDepots$Land" "count" "I", .fieldLink RX0 26 "RoadDepots$Land" "open" "[Z", .methodLink RX0 30 yX1_gap, .instanceMethod yX1_gap, .selects RX1 yX1_gap yX1_gap, .initialized RX1, .code yX1_gap cX1_gap 3 (some .int), .fieldLink RX1 22 "RoadDepots$Land" "gaps" "[I"] ++ wsX00 ++ wsX10)
def wsX0_countBefore : List Cond := .code yX0_countBefore cX0_countBefore 7 (some .int) :: ([.fieldLink RX0 15 "RoadDepots$Depots" "land" "LRoadDepots$Land;", .fieldLink RX0 20 "RoadDepots$Land" "count" "I", .fieldLink RX0 26 "RoadDepots$Land" "open" "[Z", .methodLink RX0 30 yX1_gap, .instanceMethod yX1_gap, .selects RX1 yX1_gap yX1_gap, .initialized RX1, .code yX1_gap cX1_gap 3 (some .int), .fieldLink RX1 22 "RoadDepots$Land" "gaps" "[I"] ++ wsX00 ++ wsX10)
def wsX0_ranked : List Cond := .code yX0_ranked cX0_ranked 4 (some .int) :: ([.fieldLink RX0 15 "RoadDepots$Depots" "land" "LRoadDepots$Land;", .fieldLink RX0 20 "RoadDepots$Land" "count" "I", .fieldLink RX0 26 "RoadDepots$Land" "open" "[Z", .methodLink RX0 34 yX0_countBefore, .instanceMethod yX0_countBefore, .selects RX0 yX0_countBefore yX0_countBefore, .initialized RX0, .code yX0_countBefore cX0_countBefore 7 (some .int), .methodLink RX0 30 yX1_gap, .instanceMethod yX1_gap, .selects RX1 yX1_gap yX1_gap, .initialized RX1, .code yX1_gap cX1_gap 3 (some .int), .fieldLink RX1 22 "RoadDepots$Land" "gaps" "[I"] ++ wsX00 ++ wsX10)
def wsX0_countWithin : List Cond := .code yX0_countWithin cX0_countWithin 5 (some .int) :: ([.fieldLink RX0 15 "RoadDepots$Depots" "land" "LRoadDepots$Land;", .fieldLink RX0 20 "RoadDepots$Land" "count" "I", .fieldLink RX0 26 "RoadDepots$Land" "open" "[Z", .methodLink RX0 30 yX1_gap, .instanceMethod yX1_gap, .selects RX1 yX1_gap yX1_gap, .initialized RX1, .code yX1_gap cX1_gap 3 (some .int), .fieldLink RX1 22 "RoadDepots$Land" "gaps" "[I"] ++ wsX00 ++ wsX10)
def wsX0_total : List Cond := .code yX0_total cX0_total 4 (some .int) :: ([.fieldLink RX0 15 "RoadDepots$Depots" "land" "LRoadDepots$Land;", .fieldLink RX0 20 "RoadDepots$Land" "count" "I", .fieldLink RX0 26 "RoadDepots$Land" "open" "[Z", .methodLink RX0 30 yX1_gap, .instanceMethod yX1_gap, .selects RX1 yX1_gap yX1_gap, .initialized RX1, .code yX1_gap cX1_gap 3 (some .int), .fieldLink RX1 22 "RoadDepots$Land" "gaps" "[I"] ++ wsX00 ++ wsX10)
def wsX0_findReaches : List Cond := .code yX0_findReaches cX0_findReaches 3 none :: ([.fieldLink RX0 15 "RoadDepots$Depots" "land" "LRoadDepots$Land;", .fieldLink RX0 20 "RoadDepots$Land" "count" "I", .fieldLink RX0 9 "RoadDepots$Depots" "reaches" "[I", .constant RX0 19 (1000000), .methodLink RX0 47 yX0_closest, .instanceMethod yX0_closest, .selects RX0 yX0_closest yX0_closest, .initialized RX0, .code yX0_closest cX0_closest 5 (some .int), .fieldLink RX0 26 "RoadDepots$Land" "open" "[Z", .methodLink RX0 30 yX1_gap, .instanceMethod yX1_gap, .selects RX1 yX1_gap yX1_gap, .initialized RX1, .code yX1_gap cX1_gap 3 (some .int), .fieldLink RX1 22 "RoadDepots$Land" "gaps" "[I"] ++ wsX00 ++ wsX10)
def wsX0_remotest : List Cond := .code yX0_remotest cX0_remotest 5 (some .int) :: ([.fieldLink RX0 15 "RoadDepots$Depots" "land" "LRoadDepots$Land;", .fieldLink RX0 37 "RoadDepots$Land" "openCount" "I", .fieldLink RX0 9 "RoadDepots$Depots" "reaches" "[I", .fieldLink RX0 20 "RoadDepots$Land" "count" "I", .methodLink RX0 40 yX0_findReaches, .instanceMethod yX0_findReaches, .selects RX0 yX0_findReaches yX0_findReaches, .initialized RX0, .code yX0_findReaches cX0_findReaches 3 none, .constant RX0 19 (1000000), .methodLink RX0 47 yX0_closest, .instanceMethod yX0_closest, .selects RX0 yX0_closest yX0_closest, .code yX0_closest cX0_closest 5 (some .int), .fieldLink RX0 26 "RoadDepots$Land" "open" "[Z", .methodLink RX0 30 yX1_gap, .instanceMethod yX1_gap, .selects RX1 yX1_gap yX1_gap, .initialized RX1, .code yX1_gap cX1_gap 3 (some .int), .fieldLink RX1 22 "RoadDepots$Land" "gaps" "[I"] ++ wsX00 ++ wsX10)
def wsX0_leftWith : List Cond := .code yX0_leftWith cX0_leftWith 4 (some .int) :: ([.fieldLink RX0 15 "RoadDepots$Depots" "land" "LRoadDepots$Land;", .fieldLink RX0 20 "RoadDepots$Land" "count" "I", .fieldLink RX0 9 "RoadDepots$Depots" "reaches" "[I", .methodLink RX0 50 Lib.Math.min.name, .static Lib.Math.min.name, .initialized "java/lang/Math", .code Lib.Math.min.name Lib.Math.min.code 2 (some .int), .methodLink RX0 55 Lib.Math.max.name, .static Lib.Math.max.name, .code Lib.Math.max.name Lib.Math.max.code 2 (some .int), .methodLink RX0 30 yX1_gap, .instanceMethod yX1_gap, .selects RX1 yX1_gap yX1_gap, .initialized RX1, .code yX1_gap cX1_gap 3 (some .int), .fieldLink RX1 22 "RoadDepots$Land" "gaps" "[I"] ++ wsX00 ++ wsX10)
def wsX0_bestNew_r1 : List Cond := [Cond.constant RX0 19 (1000000), Cond.fieldLink RX0 15 "RoadDepots$Depots" "land" "LRoadDepots$Land;", Cond.fieldLink RX0 20 "RoadDepots$Land" "count" "I", Cond.fieldLink RX0 26 "RoadDepots$Land" "open" "[Z", Cond.methodLink RX0 40 yX0_findReaches, Cond.instanceMethod yX0_findReaches, Cond.selects RX0 yX0_findReaches yX0_findReaches, Cond.initialized RX0, Cond.code yX0_findReaches cX0_findReaches 3 none, Cond.fieldLink RX0 9 "RoadDepots$Depots" "reaches" "[I", Cond.methodLink RX0 47 yX0_closest, Cond.instanceMethod yX0_closest, Cond.selects RX0 yX0_closest yX0_closest, Cond.code yX0_closest cX0_closest 5 (some .int), Cond.methodLink RX0 30 yX1_gap, Cond.instanceMethod yX1_gap, Cond.selects RX1 yX1_gap yX1_gap, Cond.initialized RX1, Cond.code yX1_gap cX1_gap 3 (some .int), Cond.fieldLink RX1 22 "RoadDepots$Land" "gaps" "[I", Cond.methodLink RX0 43 yX0_leftWith, Cond.instanceMethod yX0_leftWith, Cond.selects RX0 yX0_leftWith yX0_leftWith, Cond.code yX0_leftWith cX0_leftWith 4 (some .int)]
def wsX0_bestNew_r2 : List Cond := [Cond.methodLink RX0 50 Lib.Math.min.name, Cond.static Lib.Math.min.name, Cond.initialized "java/lang/Math", Cond.code Lib.Math.min.name Lib.Math.min.code 2 (some .int), Cond.methodLink RX0 55 Lib.Math.max.name, Cond.static Lib.Math.max.name, Cond.code Lib.Math.max.name Lib.Math.max.code 2 (some .int)]
def wsX0_bestNew : List Cond := .code yX0_bestNew cX0_bestNew 6 (some .int) :: ((wsX0_bestNew_r1 ++ wsX0_bestNew_r2) ++ wsX00 ++ wsX10)
def wsX0_countServed : List Cond := .code yX0_countServed cX0_countServed 4 (some .int) :: ([.fieldLink RX0 15 "RoadDepots$Depots" "land" "LRoadDepots$Land;", .fieldLink RX0 20 "RoadDepots$Land" "count" "I", .methodLink RX0 34 yX0_countBefore, .instanceMethod yX0_countBefore, .selects RX0 yX0_countBefore yX0_countBefore, .initialized RX0, .code yX0_countBefore cX0_countBefore 7 (some .int), .fieldLink RX0 26 "RoadDepots$Land" "open" "[Z", .methodLink RX0 30 yX1_gap, .instanceMethod yX1_gap, .selects RX1 yX1_gap yX1_gap, .initialized RX1, .code yX1_gap cX1_gap 3 (some .int), .fieldLink RX1 22 "RoadDepots$Land" "gaps" "[I"] ++ wsX00 ++ wsX10)
def wsX0_closestTwo : List Cond := .code yX0_closestTwo cX0_closestTwo 7 (some .int) :: ([.constant RX0 19 (1000000), .fieldLink RX0 15 "RoadDepots$Depots" "land" "LRoadDepots$Land;", .fieldLink RX0 20 "RoadDepots$Land" "count" "I", .fieldLink RX0 26 "RoadDepots$Land" "open" "[Z", .methodLink RX0 30 yX1_gap, .instanceMethod yX1_gap, .selects RX1 yX1_gap yX1_gap, .initialized RX1, .code yX1_gap cX1_gap 3 (some .int), .fieldLink RX1 22 "RoadDepots$Land" "gaps" "[I"] ++ wsX00 ++ wsX10)
def wsX1_empty : List Cond := .code yX1_empty cX1_empty 2 (some .int) :: ([.fieldLink RX1 29 "RoadDepots$Land" "count" "I", .fieldLink RX1 33 "RoadDepots$Land" "openCount" "I", .fieldLink RX1 9 "RoadDepots$Land" "roots" "[I", .fieldLink RX1 15 "RoadDepots$Land" "lengths" "[I", .fieldLink RX1 18 "RoadDepots$Land" "open" "[Z"] ++ wsX10)
def wsX1_init : List Cond := .code yX1_init cX1_init 1 none :: ([.methodLink RX1 3 objectInit, .instanceMethod objectInit, .code objectInit ⟨#[0xb1]⟩ 1 none, .arrayClass .int, .fieldLink RX1 9 "RoadDepots$Land" "roots" "[I", .fieldLink RX1 15 "RoadDepots$Land" "lengths" "[I", .arrayClass .boolean, .fieldLink RX1 18 "RoadDepots$Land" "open" "[Z", .fieldLink RX1 22 "RoadDepots$Land" "gaps" "[I", .methodLink RX1 25 yX1_empty, .instanceMethod yX1_empty, .selects RX1 yX1_empty yX1_empty, .initialized RX1, .code yX1_empty cX1_empty 2 (some .int), .fieldLink RX1 29 "RoadDepots$Land" "count" "I", .fieldLink RX1 33 "RoadDepots$Land" "openCount" "I"] ++ wsX10)
def wsX1_has : List Cond := .code yX1_has cX1_has 2 (some .boolean) :: ([.fieldLink RX1 29 "RoadDepots$Land" "count" "I"] ++ wsX10)
def wsX1_measure : List Cond := .code yX1_measure cX1_measure 5 none :: ([.fieldLink RX1 9 "RoadDepots$Land" "roots" "[I", .fieldLink RX1 15 "RoadDepots$Land" "lengths" "[I", .fieldLink RX1 22 "RoadDepots$Land" "gaps" "[I", .methodLink RX1 36 yX1_has, .instanceMethod yX1_has, .selects RX1 yX1_has yX1_has, .initialized RX1, .code yX1_has cX1_has 2 (some .boolean), .fieldLink RX1 29 "RoadDepots$Land" "count" "I", .methodLink RX1 72 yX1_gap, .instanceMethod yX1_gap, .selects RX1 yX1_gap yX1_gap, .code yX1_gap cX1_gap 3 (some .int)] ++ wsX10)
def wsX1_settle : List Cond := .code yX1_settle cX1_settle 4 (some .int) :: ([.fieldLink RX1 29 "RoadDepots$Land" "count" "I", .fieldLink RX1 9 "RoadDepots$Land" "roots" "[I", .fieldLink RX1 15 "RoadDepots$Land" "lengths" "[I", .fieldLink RX1 18 "RoadDepots$Land" "open" "[Z", .methodLink RX1 36 yX1_has, .instanceMethod yX1_has, .selects RX1 yX1_has yX1_has, .initialized RX1, .code yX1_has cX1_has 2 (some .boolean), .methodLink RX1 40 yX1_measure, .instanceMethod yX1_measure, .selects RX1 yX1_measure yX1_measure, .code yX1_measure cX1_measure 5 none, .fieldLink RX1 22 "RoadDepots$Land" "gaps" "[I", .methodLink RX1 72 yX1_gap, .instanceMethod yX1_gap, .selects RX1 yX1_gap yX1_gap, .code yX1_gap cX1_gap 3 (some .int)] ++ wsX10)
def wsX1_setDepot : List Cond := .code yX1_setDepot cX1_setDepot 3 (some .int) :: ([.fieldLink RX1 18 "RoadDepots$Land" "open" "[Z", .fieldLink RX1 33 "RoadDepots$Land" "openCount" "I"] ++ wsX10)
def wsX1_setRoad : List Cond := .code yX1_setRoad cX1_setRoad 5 (some .int) :: ([.fieldLink RX1 15 "RoadDepots$Land" "lengths" "[I", .fieldLink RX1 29 "RoadDepots$Land" "count" "I", .methodLink RX1 40 yX1_measure, .instanceMethod yX1_measure, .selects RX1 yX1_measure yX1_measure, .initialized RX1, .code yX1_measure cX1_measure 5 none, .fieldLink RX1 9 "RoadDepots$Land" "roots" "[I", .fieldLink RX1 22 "RoadDepots$Land" "gaps" "[I", .methodLink RX1 36 yX1_has, .instanceMethod yX1_has, .selects RX1 yX1_has yX1_has, .code yX1_has cX1_has 2 (some .boolean), .methodLink RX1 72 yX1_gap, .instanceMethod yX1_gap, .selects RX1 yX1_gap yX1_gap, .code yX1_gap cX1_gap 3 (some .int)] ++ wsX10)
def wsX1_sow_r1 : List Cond := [Cond.fieldLink RX1 29 "RoadDepots$Land" "count" "I", Cond.constantLong RX1 44 (1103515245), Cond.constantLong RX1 46 (12345), Cond.constantLong RX1 48 (2147483648), Cond.constantLong RX1 50 (65536), Cond.constantLong RX1 52 (1024), Cond.constantLong RX1 54 (99), Cond.constantLong RX1 60 (32768), Cond.constantLong RX1 62 (4), Cond.fieldLink RX1 33 "RoadDepots$Land" "openCount" "I", Cond.methodLink RX1 25 yX1_empty, Cond.instanceMethod yX1_empty, Cond.selects RX1 yX1_empty yX1_empty, Cond.initialized RX1, Cond.code yX1_empty cX1_empty 2 (some .int), Cond.fieldLink RX1 9 "RoadDepots$Land" "roots" "[I", Cond.fieldLink RX1 15 "RoadDepots$Land" "lengths" "[I", Cond.fieldLink RX1 18 "RoadDepots$Land" "open" "[Z", Cond.methodLink RX1 56 yX1_settle, Cond.instanceMethod yX1_settle, Cond.selects RX1 yX1_settle yX1_settle, Cond.code yX1_settle cX1_settle 4 (some .int), Cond.methodLink RX1 36 yX1_has, Cond.instanceMethod yX1_has]
def wsX1_sow_r2 : List Cond := [Cond.selects RX1 yX1_has yX1_has, Cond.code yX1_has cX1_has 2 (some .boolean), Cond.methodLink RX1 40 yX1_measure, Cond.instanceMethod yX1_measure, Cond.selects RX1 yX1_measure yX1_measure, Cond.code yX1_measure cX1_measure 5 none, Cond.fieldLink RX1 22 "RoadDepots$Land" "gaps" "[I", Cond.methodLink RX1 72 yX1_gap, Cond.instanceMethod yX1_gap, Cond.selects RX1 yX1_gap yX1_gap, Cond.code yX1_gap cX1_gap 3 (some .int), Cond.methodLink RX1 64 yX1_setDepot, Cond.instanceMethod yX1_setDepot, Cond.selects RX1 yX1_setDepot yX1_setDepot, Cond.code yX1_setDepot cX1_setDepot 3 (some .int)]
def wsX1_sow : List Cond := .code yX1_sow cX1_sow 7 (some .int) :: ((wsX1_sow_r1 ++ wsX1_sow_r2) ++ wsX10)
def wsX1_countRoads : List Cond := .code yX1_countRoads cX1_countRoads 4 (some .int) :: ([.fieldLink RX1 29 "RoadDepots$Land" "count" "I", .fieldLink RX1 9 "RoadDepots$Land" "roots" "[I"] ++ wsX10)
def wsX1_aspect : List Cond := .code yX1_aspect cX1_aspect 3 (some .int) :: ([.fieldLink RX1 9 "RoadDepots$Land" "roots" "[I", .fieldLink RX1 15 "RoadDepots$Land" "lengths" "[I", .fieldLink RX1 18 "RoadDepots$Land" "open" "[Z", .methodLink RX1 68 yX1_countRoads, .instanceMethod yX1_countRoads, .selects RX1 yX1_countRoads yX1_countRoads, .initialized RX1, .code yX1_countRoads cX1_countRoads 4 (some .int), .fieldLink RX1 29 "RoadDepots$Land" "count" "I"] ++ wsX10)
def wsX2_init : List Cond := .code yX2_init cX2_init 1 none :: ([.methodLink RX2 3 objectInit, .instanceMethod objectInit, .code objectInit ⟨#[0xb1]⟩ 1 none, .arrayClass .byte, .fieldLink RX2 9 "RoadDepots$Line" "signs" "[B", .fieldLink RX2 15 "RoadDepots$Line" "size" "I"] ++ wsX20)
def wsX2_empty : List Cond := .code yX2_empty cX2_empty 1 none :: ([.fieldLink RX2 15 "RoadDepots$Line" "size" "I"] ++ wsX20)
def wsX2_put : List Cond := .code yX2_put cX2_put 2 none :: ([.fieldLink RX2 15 "RoadDepots$Line" "size" "I", .fieldLink RX2 9 "RoadDepots$Line" "signs" "[B"] ++ wsX20)
def wsX2_putNumber : List Cond := .code yX2_putNumber cX2_putNumber 4 none :: ([.methodLink RX2 19 yX2_put, .instanceMethod yX2_put, .selects RX2 yX2_put yX2_put, .initialized RX2, .code yX2_put cX2_put 2 none, .fieldLink RX2 15 "RoadDepots$Line" "size" "I", .fieldLink RX2 9 "RoadDepots$Line" "signs" "[B"] ++ wsX20)
def wsX3_init : List Cond := .code yX3_init cX3_init 2 none :: ([.methodLink RX3 3 objectInit, .instanceMethod objectInit, .code objectInit ⟨#[0xb1]⟩ 1 none, .arrayClass .int, .fieldLink RX3 9 "RoadDepots$Reader" "words" "[I", .fieldLink RX3 15 "RoadDepots$Reader" "firsts" "[I", .fieldLink RX3 18 "RoadDepots$Reader" "seconds" "[I", .fieldLink RX3 21 "RoadDepots$Reader" "text" "LRoadDepots$Text;"] ++ wsX30)
def wsX5_byteAt : List Cond := .code yX5_byteAt cX5_byteAt 2 (some .int) :: ([.fieldLink RX5 15 "RoadDepots$Text" "size" "I", .fieldLink RX5 9 "RoadDepots$Text" "bytes" "[B"] ++ wsX50)
def wsX3_skipBlanks : List Cond := .code yX3_skipBlanks cX3_skipBlanks 1 none :: ([.fieldLink RX3 29 "RoadDepots$Reader" "place" "I", .fieldLink RX3 21 "RoadDepots$Reader" "text" "LRoadDepots$Text;", .fieldLink RX3 38 "RoadDepots$Text" "size" "I", .methodLink RX3 83 yX5_byteAt, .instanceMethod yX5_byteAt, .selects RX5 yX5_byteAt yX5_byteAt, .initialized RX5, .code yX5_byteAt cX5_byteAt 2 (some .int), .fieldLink RX5 15 "RoadDepots$Text" "size" "I", .fieldLink RX5 9 "RoadDepots$Text" "bytes" "[B"] ++ wsX30 ++ wsX50)
def wsX5_isLetter : List Cond := .code yX5_isLetter cX5_isLetter 3 (some .boolean) :: ([.methodLink RX5 19 yX5_byteAt, .instanceMethod yX5_byteAt, .selects RX5 yX5_byteAt yX5_byteAt, .initialized RX5, .code yX5_byteAt cX5_byteAt 2 (some .int), .fieldLink RX5 15 "RoadDepots$Text" "size" "I", .fieldLink RX5 9 "RoadDepots$Text" "bytes" "[B"] ++ wsX50)
def wsX7_spelling : List Cond := .code yX7_spelling cX7_spelling 1 (some (.object "java/lang/String")) :: ([])
def wsJ0_coder_7d493 : List Cond := .code yJ0_coder_7d493 cJ0_coder_7d493 1 (some .byte) :: ([.fieldLink RJ0 38 "java/lang/String" "COMPACT_STRINGS" "Z", .fieldLink RJ0 15 "java/lang/String" "coder" "B"])
def wsJ0_length_8abf5 : List Cond := .code yJ0_length_8abf5 cJ0_length_8abf5 1 (some .int) :: ([.fieldLink RJ0 9 "java/lang/String" "value" "[B", .methodLink RJ0 335 yJ0_coder_7d493, .instanceMethod yJ0_coder_7d493, .selects RJ0 yJ0_coder_7d493 yJ0_coder_7d493, .initialized RJ0, .code yJ0_coder_7d493 cJ0_coder_7d493 1 (some .byte), .fieldLink RJ0 38 "java/lang/String" "COMPACT_STRINGS" "Z", .fieldLink RJ0 15 "java/lang/String" "coder" "B"])
def wsJ0_isLatin1_aae02 : List Cond := .code yJ0_isLatin1_aae02 cJ0_isLatin1_aae02 1 (some .boolean) :: ([.fieldLink RJ0 38 "java/lang/String" "COMPACT_STRINGS" "Z", .fieldLink RJ0 15 "java/lang/String" "coder" "B"])
def wsJ3_checkIndex_8e157 : List Cond := .code yJ3_checkIndex_8e157 cJ3_checkIndex_8e157 3 (some .int) :: ([])
def wsJ0_checkIndex_df160 : List Cond := .code yJ0_checkIndex_df160 cJ0_checkIndex_df160 2 none :: ([.fieldLink RJ0 1053 "jdk/internal/util/Preconditions" "SIOOBE_FORMATTER" "Ljava/util/function/BiFunction;", .methodLink RJ0 1059 yJ3_checkIndex_8e157, .static yJ3_checkIndex_8e157, .initialized RJ3, .code yJ3_checkIndex_8e157 cJ3_checkIndex_8e157 3 (some .int)])
def wsJ1_charAt_3b067 : List Cond := .code yJ1_charAt_3b067 cJ1_charAt_3b067 2 (some .char) :: ([.methodLink RJ1 9 yJ0_checkIndex_df160, .static yJ0_checkIndex_df160, .initialized RJ0, .code yJ0_checkIndex_df160 cJ0_checkIndex_df160 2 none, .fieldLink RJ0 1053 "jdk/internal/util/Preconditions" "SIOOBE_FORMATTER" "Ljava/util/function/BiFunction;", .methodLink RJ0 1059 yJ3_checkIndex_8e157, .static yJ3_checkIndex_8e157, .initialized RJ3, .code yJ3_checkIndex_8e157 cJ3_checkIndex_8e157 3 (some .int)])
def wsJ2_length_9d52b : List Cond := .code yJ2_length_9d52b cJ2_length_9d52b 1 (some .int) :: ([])
def wsJ2_checkIndex_2214a : List Cond := .code yJ2_checkIndex_2214a cJ2_checkIndex_2214a 2 none :: ([.methodLink RJ2 48 yJ2_length_9d52b, .static yJ2_length_9d52b, .initialized RJ2, .code yJ2_length_9d52b cJ2_length_9d52b 1 (some .int), .methodLink RJ2 414 yJ0_checkIndex_df160, .static yJ0_checkIndex_df160, .initialized RJ0, .code yJ0_checkIndex_df160 cJ0_checkIndex_df160 2 none, .fieldLink RJ0 1053 "jdk/internal/util/Preconditions" "SIOOBE_FORMATTER" "Ljava/util/function/BiFunction;", .methodLink RJ0 1059 yJ3_checkIndex_8e157, .static yJ3_checkIndex_8e157, .initialized RJ3, .code yJ3_checkIndex_8e157 cJ3_checkIndex_8e157 3 (some .int)])
def wsJ2_getChar_3b067 : List Cond := .code yJ2_getChar_3b067 cJ2_getChar_3b067 2 (some .char) :: ([.fieldLink RJ2 44 "java/lang/StringUTF16" "$assertionsDisabled" "Z", .fieldLink RJ2 59 "java/lang/StringUTF16" "HI_BYTE_SHIFT" "I", .fieldLink RJ2 63 "java/lang/StringUTF16" "LO_BYTE_SHIFT" "I", .methodLink RJ2 48 yJ2_length_9d52b, .static yJ2_length_9d52b, .initialized RJ2, .code yJ2_length_9d52b cJ2_length_9d52b 1 (some .int)])
def wsJ2_charAt_3b067 : List Cond := .code yJ2_charAt_3b067 cJ2_charAt_3b067 2 (some .char) :: ([.methodLink RJ2 67 yJ2_checkIndex_2214a, .static yJ2_checkIndex_2214a, .initialized RJ2, .code yJ2_checkIndex_2214a cJ2_checkIndex_2214a 2 none, .methodLink RJ2 48 yJ2_length_9d52b, .static yJ2_length_9d52b, .code yJ2_length_9d52b cJ2_length_9d52b 1 (some .int), .methodLink RJ2 414 yJ0_checkIndex_df160, .static yJ0_checkIndex_df160, .initialized RJ0, .code yJ0_checkIndex_df160 cJ0_checkIndex_df160 2 none, .fieldLink RJ0 1053 "jdk/internal/util/Preconditions" "SIOOBE_FORMATTER" "Ljava/util/function/BiFunction;", .methodLink RJ0 1059 yJ3_checkIndex_8e157, .static yJ3_checkIndex_8e157, .initialized RJ3, .code yJ3_checkIndex_8e157 cJ3_checkIndex_8e157 3 (some .int), .methodLink RJ2 71 yJ2_getChar_3b067, .static yJ2_getChar_3b067, .code yJ2_getChar_3b067 cJ2_getChar_3b067 2 (some .char), .fieldLink RJ2 44 "java/lang/StringUTF16" "$assertionsDisabled" "Z", .fieldLink RJ2 59 "java/lang/StringUTF16" "HI_BYTE_SHIFT" "I", .fieldLink RJ2 63 "java/lang/StringUTF16" "LO_BYTE_SHIFT" "I"])
def wsJ0_charAt_5068e_r1 : List Cond := [Cond.fieldLink RJ0 9 "java/lang/String" "value" "[B", Cond.methodLink RJ0 492 yJ0_isLatin1_aae02, Cond.instanceMethod yJ0_isLatin1_aae02, Cond.selects RJ0 yJ0_isLatin1_aae02 yJ0_isLatin1_aae02, Cond.initialized RJ0, Cond.code yJ0_isLatin1_aae02 cJ0_isLatin1_aae02 1 (some .boolean), Cond.fieldLink RJ0 38 "java/lang/String" "COMPACT_STRINGS" "Z", Cond.fieldLink RJ0 15 "java/lang/String" "coder" "B", Cond.methodLink RJ0 495 yJ1_charAt_3b067, Cond.static yJ1_charAt_3b067, Cond.initialized RJ1, Cond.code yJ1_charAt_3b067 cJ1_charAt_3b067 2 (some .char), Cond.methodLink RJ1 9 yJ0_checkIndex_df160, Cond.static yJ0_checkIndex_df160, Cond.code yJ0_checkIndex_df160 cJ0_checkIndex_df160 2 none, Cond.fieldLink RJ0 1053 "jdk/internal/util/Preconditions" "SIOOBE_FORMATTER" "Ljava/util/function/BiFunction;", Cond.methodLink RJ0 1059 yJ3_checkIndex_8e157, Cond.static yJ3_checkIndex_8e157, Cond.initialized RJ3, Cond.code yJ3_checkIndex_8e157 cJ3_checkIndex_8e157 3 (some .int), Cond.methodLink RJ0 498 yJ2_charAt_3b067, Cond.static yJ2_charAt_3b067, Cond.initialized RJ2, Cond.code yJ2_charAt_3b067 cJ2_charAt_3b067 2 (some .char)]
def wsJ0_charAt_5068e_r2 : List Cond := [Cond.methodLink RJ2 67 yJ2_checkIndex_2214a, Cond.static yJ2_checkIndex_2214a, Cond.code yJ2_checkIndex_2214a cJ2_checkIndex_2214a 2 none, Cond.methodLink RJ2 48 yJ2_length_9d52b, Cond.static yJ2_length_9d52b, Cond.code yJ2_length_9d52b cJ2_length_9d52b 1 (some .int), Cond.methodLink RJ2 414 yJ0_checkIndex_df160, Cond.methodLink RJ2 71 yJ2_getChar_3b067, Cond.static yJ2_getChar_3b067, Cond.code yJ2_getChar_3b067 cJ2_getChar_3b067 2 (some .char), Cond.fieldLink RJ2 44 "java/lang/StringUTF16" "$assertionsDisabled" "Z", Cond.fieldLink RJ2 59 "java/lang/StringUTF16" "HI_BYTE_SHIFT" "I", Cond.fieldLink RJ2 63 "java/lang/StringUTF16" "LO_BYTE_SHIFT" "I"]
def wsJ0_charAt_5068e : List Cond := .code yJ0_charAt_5068e cJ0_charAt_5068e 2 (some .char) :: ((wsJ0_charAt_5068e_r1 ++ wsJ0_charAt_5068e_r2))
def wsX5_isWord_r1 : List Cond := [Cond.methodLink RX5 23 yJ0_length_8abf5, Cond.instanceMethod yJ0_length_8abf5, Cond.selects RJ0 yJ0_length_8abf5 yJ0_length_8abf5, Cond.initialized RJ0, Cond.code yJ0_length_8abf5 cJ0_length_8abf5 1 (some .int), Cond.fieldLink RJ0 9 "java/lang/String" "value" "[B", Cond.methodLink RJ0 335 yJ0_coder_7d493, Cond.instanceMethod yJ0_coder_7d493, Cond.selects RJ0 yJ0_coder_7d493 yJ0_coder_7d493, Cond.code yJ0_coder_7d493 cJ0_coder_7d493 1 (some .byte), Cond.fieldLink RJ0 38 "java/lang/String" "COMPACT_STRINGS" "Z", Cond.fieldLink RJ0 15 "java/lang/String" "coder" "B", Cond.methodLink RX5 19 yX5_byteAt, Cond.instanceMethod yX5_byteAt, Cond.selects RX5 yX5_byteAt yX5_byteAt, Cond.initialized RX5, Cond.code yX5_byteAt cX5_byteAt 2 (some .int), Cond.fieldLink RX5 15 "RoadDepots$Text" "size" "I", Cond.fieldLink RX5 9 "RoadDepots$Text" "bytes" "[B", Cond.methodLink RX5 29 yJ0_charAt_5068e, Cond.instanceMethod yJ0_charAt_5068e, Cond.selects RJ0 yJ0_charAt_5068e yJ0_charAt_5068e, Cond.code yJ0_charAt_5068e cJ0_charAt_5068e 2 (some .char), Cond.methodLink RJ0 492 yJ0_isLatin1_aae02]
def wsX5_isWord_r2 : List Cond := [Cond.instanceMethod yJ0_isLatin1_aae02, Cond.selects RJ0 yJ0_isLatin1_aae02 yJ0_isLatin1_aae02, Cond.code yJ0_isLatin1_aae02 cJ0_isLatin1_aae02 1 (some .boolean), Cond.methodLink RJ0 495 yJ1_charAt_3b067, Cond.static yJ1_charAt_3b067, Cond.initialized RJ1, Cond.code yJ1_charAt_3b067 cJ1_charAt_3b067 2 (some .char), Cond.methodLink RJ1 9 yJ0_checkIndex_df160, Cond.static yJ0_checkIndex_df160, Cond.code yJ0_checkIndex_df160 cJ0_checkIndex_df160 2 none, Cond.fieldLink RJ0 1053 "jdk/internal/util/Preconditions" "SIOOBE_FORMATTER" "Ljava/util/function/BiFunction;", Cond.methodLink RJ0 1059 yJ3_checkIndex_8e157, Cond.static yJ3_checkIndex_8e157, Cond.initialized RJ3, Cond.code yJ3_checkIndex_8e157 cJ3_checkIndex_8e157 3 (some .int), Cond.methodLink RJ0 498 yJ2_charAt_3b067, Cond.static yJ2_charAt_3b067, Cond.initialized RJ2, Cond.code yJ2_charAt_3b067 cJ2_charAt_3b067 2 (some .char), Cond.methodLink RJ2 67 yJ2_checkIndex_2214a, Cond.static yJ2_checkIndex_2214a, Cond.code yJ2_checkIndex_2214a cJ2_checkIndex_2214a 2 none, Cond.methodLink RJ2 48 yJ2_length_9d52b, Cond.static yJ2_length_9d52b]
def wsX5_isWord_r3 : List Cond := [Cond.code yJ2_length_9d52b cJ2_length_9d52b 1 (some .int), Cond.methodLink RJ2 414 yJ0_checkIndex_df160, Cond.methodLink RJ2 71 yJ2_getChar_3b067, Cond.static yJ2_getChar_3b067, Cond.code yJ2_getChar_3b067 cJ2_getChar_3b067 2 (some .char), Cond.fieldLink RJ2 44 "java/lang/StringUTF16" "$assertionsDisabled" "Z", Cond.fieldLink RJ2 59 "java/lang/StringUTF16" "HI_BYTE_SHIFT" "I", Cond.fieldLink RJ2 63 "java/lang/StringUTF16" "LO_BYTE_SHIFT" "I"]
def wsX5_isWord : List Cond := .code yX5_isWord cX5_isWord 5 (some .boolean) :: ((wsX5_isWord_r1 ++ (wsX5_isWord_r2 ++ wsX5_isWord_r3)) ++ wsX50)
def wsX7_find_r1 : List Cond := [Cond.methodLink RX7 11 yX7_spelling, Cond.static yX7_spelling, Cond.initialized RX7, Cond.code yX7_spelling cX7_spelling 1 (some (.object "java/lang/String")), Cond.methodLink RX7 15 yX5_isWord, Cond.instanceMethod yX5_isWord, Cond.selects RX5 yX5_isWord yX5_isWord, Cond.initialized RX5, Cond.code yX5_isWord cX5_isWord 5 (some .boolean), Cond.methodLink RX5 23 yJ0_length_8abf5, Cond.instanceMethod yJ0_length_8abf5, Cond.selects RJ0 yJ0_length_8abf5 yJ0_length_8abf5, Cond.initialized RJ0, Cond.code yJ0_length_8abf5 cJ0_length_8abf5 1 (some .int), Cond.fieldLink RJ0 9 "java/lang/String" "value" "[B", Cond.methodLink RJ0 335 yJ0_coder_7d493, Cond.instanceMethod yJ0_coder_7d493, Cond.selects RJ0 yJ0_coder_7d493 yJ0_coder_7d493, Cond.code yJ0_coder_7d493 cJ0_coder_7d493 1 (some .byte), Cond.fieldLink RJ0 38 "java/lang/String" "COMPACT_STRINGS" "Z", Cond.fieldLink RJ0 15 "java/lang/String" "coder" "B", Cond.methodLink RX5 19 yX5_byteAt, Cond.instanceMethod yX5_byteAt, Cond.selects RX5 yX5_byteAt yX5_byteAt]
def wsX7_find_r2 : List Cond := [Cond.code yX5_byteAt cX5_byteAt 2 (some .int), Cond.fieldLink RX5 15 "RoadDepots$Text" "size" "I", Cond.fieldLink RX5 9 "RoadDepots$Text" "bytes" "[B", Cond.methodLink RX5 29 yJ0_charAt_5068e, Cond.instanceMethod yJ0_charAt_5068e, Cond.selects RJ0 yJ0_charAt_5068e yJ0_charAt_5068e, Cond.code yJ0_charAt_5068e cJ0_charAt_5068e 2 (some .char), Cond.methodLink RJ0 492 yJ0_isLatin1_aae02, Cond.instanceMethod yJ0_isLatin1_aae02, Cond.selects RJ0 yJ0_isLatin1_aae02 yJ0_isLatin1_aae02, Cond.code yJ0_isLatin1_aae02 cJ0_isLatin1_aae02 1 (some .boolean), Cond.methodLink RJ0 495 yJ1_charAt_3b067, Cond.static yJ1_charAt_3b067, Cond.initialized RJ1, Cond.code yJ1_charAt_3b067 cJ1_charAt_3b067 2 (some .char), Cond.methodLink RJ1 9 yJ0_checkIndex_df160, Cond.static yJ0_checkIndex_df160, Cond.code yJ0_checkIndex_df160 cJ0_checkIndex_df160 2 none, Cond.fieldLink RJ0 1053 "jdk/internal/util/Preconditions" "SIOOBE_FORMATTER" "Ljava/util/function/BiFunction;", Cond.methodLink RJ0 1059 yJ3_checkIndex_8e157, Cond.static yJ3_checkIndex_8e157, Cond.initialized RJ3, Cond.code yJ3_checkIndex_8e157 cJ3_checkIndex_8e157 3 (some .int), Cond.methodLink RJ0 498 yJ2_charAt_3b067]
def wsX7_find_r3 : List Cond := [Cond.static yJ2_charAt_3b067, Cond.initialized RJ2, Cond.code yJ2_charAt_3b067 cJ2_charAt_3b067 2 (some .char), Cond.methodLink RJ2 67 yJ2_checkIndex_2214a, Cond.static yJ2_checkIndex_2214a, Cond.code yJ2_checkIndex_2214a cJ2_checkIndex_2214a 2 none, Cond.methodLink RJ2 48 yJ2_length_9d52b, Cond.static yJ2_length_9d52b, Cond.code yJ2_length_9d52b cJ2_length_9d52b 1 (some .int), Cond.methodLink RJ2 414 yJ0_checkIndex_df160, Cond.methodLink RJ2 71 yJ2_getChar_3b067, Cond.static yJ2_getChar_3b067, Cond.code yJ2_getChar_3b067 cJ2_getChar_3b067 2 (some .char), Cond.fieldLink RJ2 44 "java/lang/StringUTF16" "$assertionsDisabled" "Z", Cond.fieldLink RJ2 59 "java/lang/StringUTF16" "HI_BYTE_SHIFT" "I", Cond.fieldLink RJ2 63 "java/lang/StringUTF16" "LO_BYTE_SHIFT" "I"]
def wsX7_find : List Cond := .code yX7_find cX7_find 4 (some .int) :: ((wsX7_find_r1 ++ (wsX7_find_r2 ++ wsX7_find_r3)) ++ wsX50)
def wsX3_readWord_r1 : List Cond := [Cond.fieldLink RX3 29 "RoadDepots$Reader" "place" "I", Cond.fieldLink RX3 21 "RoadDepots$Reader" "text" "LRoadDepots$Text;", Cond.fieldLink RX3 38 "RoadDepots$Text" "size" "I", Cond.fieldLink RX3 35 "RoadDepots$Reader" "villages" "I", Cond.fieldLink RX3 32 "RoadDepots$Reader" "fault" "I", Cond.methodLink RX3 46 yX3_skipBlanks, Cond.instanceMethod yX3_skipBlanks, Cond.selects RX3 yX3_skipBlanks yX3_skipBlanks, Cond.initialized RX3, Cond.code yX3_skipBlanks cX3_skipBlanks 1 none, Cond.methodLink RX3 83 yX5_byteAt, Cond.instanceMethod yX5_byteAt, Cond.selects RX5 yX5_byteAt yX5_byteAt, Cond.initialized RX5, Cond.code yX5_byteAt cX5_byteAt 2 (some .int), Cond.fieldLink RX5 15 "RoadDepots$Text" "size" "I", Cond.fieldLink RX5 9 "RoadDepots$Text" "bytes" "[B", Cond.methodLink RX3 72 yX5_isLetter, Cond.instanceMethod yX5_isLetter, Cond.selects RX5 yX5_isLetter yX5_isLetter, Cond.code yX5_isLetter cX5_isLetter 3 (some .boolean), Cond.methodLink RX5 19 yX5_byteAt, Cond.methodLink RX3 76 yX7_find, Cond.static yX7_find]
def wsX3_readWord_r2 : List Cond := [Cond.initialized RX7, Cond.code yX7_find cX7_find 4 (some .int), Cond.methodLink RX7 11 yX7_spelling, Cond.static yX7_spelling, Cond.code yX7_spelling cX7_spelling 1 (some (.object "java/lang/String")), Cond.methodLink RX7 15 yX5_isWord, Cond.instanceMethod yX5_isWord, Cond.selects RX5 yX5_isWord yX5_isWord, Cond.code yX5_isWord cX5_isWord 5 (some .boolean), Cond.methodLink RX5 23 yJ0_length_8abf5, Cond.instanceMethod yJ0_length_8abf5, Cond.selects RJ0 yJ0_length_8abf5 yJ0_length_8abf5, Cond.initialized RJ0, Cond.code yJ0_length_8abf5 cJ0_length_8abf5 1 (some .int), Cond.fieldLink RJ0 9 "java/lang/String" "value" "[B", Cond.methodLink RJ0 335 yJ0_coder_7d493, Cond.instanceMethod yJ0_coder_7d493, Cond.selects RJ0 yJ0_coder_7d493 yJ0_coder_7d493, Cond.code yJ0_coder_7d493 cJ0_coder_7d493 1 (some .byte), Cond.fieldLink RJ0 38 "java/lang/String" "COMPACT_STRINGS" "Z", Cond.fieldLink RJ0 15 "java/lang/String" "coder" "B", Cond.methodLink RX5 29 yJ0_charAt_5068e, Cond.instanceMethod yJ0_charAt_5068e, Cond.selects RJ0 yJ0_charAt_5068e yJ0_charAt_5068e]
def wsX3_readWord_r3 : List Cond := [Cond.code yJ0_charAt_5068e cJ0_charAt_5068e 2 (some .char), Cond.methodLink RJ0 492 yJ0_isLatin1_aae02, Cond.instanceMethod yJ0_isLatin1_aae02, Cond.selects RJ0 yJ0_isLatin1_aae02 yJ0_isLatin1_aae02, Cond.code yJ0_isLatin1_aae02 cJ0_isLatin1_aae02 1 (some .boolean), Cond.methodLink RJ0 495 yJ1_charAt_3b067, Cond.static yJ1_charAt_3b067, Cond.initialized RJ1, Cond.code yJ1_charAt_3b067 cJ1_charAt_3b067 2 (some .char), Cond.methodLink RJ1 9 yJ0_checkIndex_df160, Cond.static yJ0_checkIndex_df160, Cond.code yJ0_checkIndex_df160 cJ0_checkIndex_df160 2 none, Cond.fieldLink RJ0 1053 "jdk/internal/util/Preconditions" "SIOOBE_FORMATTER" "Ljava/util/function/BiFunction;", Cond.methodLink RJ0 1059 yJ3_checkIndex_8e157, Cond.static yJ3_checkIndex_8e157, Cond.initialized RJ3, Cond.code yJ3_checkIndex_8e157 cJ3_checkIndex_8e157 3 (some .int), Cond.methodLink RJ0 498 yJ2_charAt_3b067, Cond.static yJ2_charAt_3b067, Cond.initialized RJ2, Cond.code yJ2_charAt_3b067 cJ2_charAt_3b067 2 (some .char), Cond.methodLink RJ2 67 yJ2_checkIndex_2214a, Cond.static yJ2_checkIndex_2214a, Cond.code yJ2_checkIndex_2214a cJ2_checkIndex_2214a 2 none]
def wsX3_readWord_r4 : List Cond := [Cond.methodLink RJ2 48 yJ2_length_9d52b, Cond.static yJ2_length_9d52b, Cond.code yJ2_length_9d52b cJ2_length_9d52b 1 (some .int), Cond.methodLink RJ2 414 yJ0_checkIndex_df160, Cond.methodLink RJ2 71 yJ2_getChar_3b067, Cond.static yJ2_getChar_3b067, Cond.code yJ2_getChar_3b067 cJ2_getChar_3b067 2 (some .char), Cond.fieldLink RJ2 44 "java/lang/StringUTF16" "$assertionsDisabled" "Z", Cond.fieldLink RJ2 59 "java/lang/StringUTF16" "HI_BYTE_SHIFT" "I", Cond.fieldLink RJ2 63 "java/lang/StringUTF16" "LO_BYTE_SHIFT" "I"]
def wsX3_readWord : List Cond := .code yX3_readWord cX3_readWord 3 (some .int) :: ((wsX3_readWord_r1 ++ (wsX3_readWord_r2 ++ (wsX3_readWord_r3 ++ wsX3_readWord_r4))) ++ wsX30 ++ wsX50)
def wsX7_firstNeed : List Cond := .code yX7_firstNeed cX7_firstNeed 1 (some .int) :: ([.fieldLink RX7 21 "RoadDepots$Words" "FIRST" "[I"])
def wsX5_isFigure : List Cond := .code yX5_isFigure cX5_isFigure 3 (some .boolean) :: ([.methodLink RX5 19 yX5_byteAt, .instanceMethod yX5_byteAt, .selects RX5 yX5_byteAt yX5_byteAt, .initialized RX5, .code yX5_byteAt cX5_byteAt 2 (some .int), .fieldLink RX5 15 "RoadDepots$Text" "size" "I", .fieldLink RX5 9 "RoadDepots$Text" "bytes" "[B"] ++ wsX50)
def wsX8_isLength : List Cond := .code yX8_isLength cX8_isLength 1 (some .boolean) :: ([])
def wsX7_suits : List Cond := .code yX7_suits cX7_suits 3 (some .boolean) :: ([.static yX8_isLength, .initialized RX8, .code yX8_isLength cX8_isLength 1 (some .boolean)])
def wsX3_readNumber_r1 : List Cond := [Cond.fieldLink RX3 32 "RoadDepots$Reader" "fault" "I", Cond.fieldLink RX3 29 "RoadDepots$Reader" "place" "I", Cond.fieldLink RX3 21 "RoadDepots$Reader" "text" "LRoadDepots$Text;", Cond.fieldLink RX3 38 "RoadDepots$Text" "size" "I", Cond.fieldLink RX3 35 "RoadDepots$Reader" "villages" "I", Cond.methodLink RX3 46 yX3_skipBlanks, Cond.instanceMethod yX3_skipBlanks, Cond.selects RX3 yX3_skipBlanks yX3_skipBlanks, Cond.initialized RX3, Cond.code yX3_skipBlanks cX3_skipBlanks 1 none, Cond.methodLink RX3 83 yX5_byteAt, Cond.instanceMethod yX5_byteAt, Cond.selects RX5 yX5_byteAt yX5_byteAt, Cond.initialized RX5, Cond.code yX5_byteAt cX5_byteAt 2 (some .int), Cond.fieldLink RX5 15 "RoadDepots$Text" "size" "I", Cond.fieldLink RX5 9 "RoadDepots$Text" "bytes" "[B", Cond.methodLink RX3 80 yX5_isFigure, Cond.instanceMethod yX5_isFigure, Cond.selects RX5 yX5_isFigure yX5_isFigure, Cond.code yX5_isFigure cX5_isFigure 3 (some .boolean), Cond.methodLink RX5 19 yX5_byteAt, Cond.methodLink RX3 86 yX7_suits, Cond.static yX7_suits]
def wsX3_readNumber_r2 : List Cond := [Cond.initialized RX7, Cond.code yX7_suits cX7_suits 3 (some .boolean), Cond.static yX8_isLength, Cond.initialized RX8, Cond.code yX8_isLength cX8_isLength 1 (some .boolean)]
def wsX3_readNumber : List Cond := .code yX3_readNumber cX3_readNumber 5 (some .int) :: ((wsX3_readNumber_r1 ++ wsX3_readNumber_r2) ++ wsX30 ++ wsX50)
def wsX7_secondNeed : List Cond := .code yX7_secondNeed cX7_secondNeed 1 (some .int) :: ([.fieldLink RX7 25 "RoadDepots$Words" "SECOND" "[I"])
def wsX3_readEnd : List Cond := .code yX3_readEnd cX3_readEnd 1 none :: ([.fieldLink RX3 32 "RoadDepots$Reader" "fault" "I", .fieldLink RX3 21 "RoadDepots$Reader" "text" "LRoadDepots$Text;", .fieldLink RX3 29 "RoadDepots$Reader" "place" "I", .methodLink RX3 46 yX3_skipBlanks, .instanceMethod yX3_skipBlanks, .selects RX3 yX3_skipBlanks yX3_skipBlanks, .initialized RX3, .code yX3_skipBlanks cX3_skipBlanks 1 none, .fieldLink RX3 38 "RoadDepots$Text" "size" "I", .methodLink RX3 83 yX5_byteAt, .instanceMethod yX5_byteAt, .selects RX5 yX5_byteAt yX5_byteAt, .initialized RX5, .code yX5_byteAt cX5_byteAt 2 (some .int), .fieldLink RX5 15 "RoadDepots$Text" "size" "I", .fieldLink RX5 9 "RoadDepots$Text" "bytes" "[B"] ++ wsX30 ++ wsX50)
def wsX3_keep : List Cond := .code yX3_keep cX3_keep 4 none :: ([.fieldLink RX3 25 "RoadDepots$Reader" "count" "I", .fieldLink RX3 9 "RoadDepots$Reader" "words" "[I", .fieldLink RX3 15 "RoadDepots$Reader" "firsts" "[I", .fieldLink RX3 18 "RoadDepots$Reader" "seconds" "[I", .fieldLink RX3 35 "RoadDepots$Reader" "villages" "I"] ++ wsX30)
def wsX3_readSentence_r1 : List Cond := [Cond.fieldLink RX3 32 "RoadDepots$Reader" "fault" "I", Cond.methodLink RX3 49 yX3_readWord, Cond.instanceMethod yX3_readWord, Cond.selects RX3 yX3_readWord yX3_readWord, Cond.initialized RX3, Cond.code yX3_readWord cX3_readWord 3 (some .int), Cond.fieldLink RX3 29 "RoadDepots$Reader" "place" "I", Cond.fieldLink RX3 21 "RoadDepots$Reader" "text" "LRoadDepots$Text;", Cond.fieldLink RX3 38 "RoadDepots$Text" "size" "I", Cond.fieldLink RX3 35 "RoadDepots$Reader" "villages" "I", Cond.methodLink RX3 46 yX3_skipBlanks, Cond.instanceMethod yX3_skipBlanks, Cond.selects RX3 yX3_skipBlanks yX3_skipBlanks, Cond.code yX3_skipBlanks cX3_skipBlanks 1 none, Cond.methodLink RX3 83 yX5_byteAt, Cond.instanceMethod yX5_byteAt, Cond.selects RX5 yX5_byteAt yX5_byteAt, Cond.initialized RX5, Cond.code yX5_byteAt cX5_byteAt 2 (some .int), Cond.fieldLink RX5 15 "RoadDepots$Text" "size" "I", Cond.fieldLink RX5 9 "RoadDepots$Text" "bytes" "[B", Cond.methodLink RX3 72 yX5_isLetter, Cond.instanceMethod yX5_isLetter, Cond.selects RX5 yX5_isLetter yX5_isLetter]
def wsX3_readSentence_r2 : List Cond := [Cond.code yX5_isLetter cX5_isLetter 3 (some .boolean), Cond.methodLink RX5 19 yX5_byteAt, Cond.methodLink RX3 76 yX7_find, Cond.static yX7_find, Cond.initialized RX7, Cond.code yX7_find cX7_find 4 (some .int), Cond.methodLink RX7 11 yX7_spelling, Cond.static yX7_spelling, Cond.code yX7_spelling cX7_spelling 1 (some (.object "java/lang/String")), Cond.methodLink RX7 15 yX5_isWord, Cond.instanceMethod yX5_isWord, Cond.selects RX5 yX5_isWord yX5_isWord, Cond.code yX5_isWord cX5_isWord 5 (some .boolean), Cond.methodLink RX5 23 yJ0_length_8abf5, Cond.instanceMethod yJ0_length_8abf5, Cond.selects RJ0 yJ0_length_8abf5 yJ0_length_8abf5, Cond.initialized RJ0, Cond.code yJ0_length_8abf5 cJ0_length_8abf5 1 (some .int), Cond.fieldLink RJ0 9 "java/lang/String" "value" "[B", Cond.methodLink RJ0 335 yJ0_coder_7d493, Cond.instanceMethod yJ0_coder_7d493, Cond.selects RJ0 yJ0_coder_7d493 yJ0_coder_7d493, Cond.code yJ0_coder_7d493 cJ0_coder_7d493 1 (some .byte), Cond.fieldLink RJ0 38 "java/lang/String" "COMPACT_STRINGS" "Z"]
def wsX3_readSentence_r3 : List Cond := [Cond.fieldLink RJ0 15 "java/lang/String" "coder" "B", Cond.methodLink RX5 29 yJ0_charAt_5068e, Cond.instanceMethod yJ0_charAt_5068e, Cond.selects RJ0 yJ0_charAt_5068e yJ0_charAt_5068e, Cond.code yJ0_charAt_5068e cJ0_charAt_5068e 2 (some .char), Cond.methodLink RJ0 492 yJ0_isLatin1_aae02, Cond.instanceMethod yJ0_isLatin1_aae02, Cond.selects RJ0 yJ0_isLatin1_aae02 yJ0_isLatin1_aae02, Cond.code yJ0_isLatin1_aae02 cJ0_isLatin1_aae02 1 (some .boolean), Cond.methodLink RJ0 495 yJ1_charAt_3b067, Cond.static yJ1_charAt_3b067, Cond.initialized RJ1, Cond.code yJ1_charAt_3b067 cJ1_charAt_3b067 2 (some .char), Cond.methodLink RJ1 9 yJ0_checkIndex_df160, Cond.static yJ0_checkIndex_df160, Cond.code yJ0_checkIndex_df160 cJ0_checkIndex_df160 2 none, Cond.fieldLink RJ0 1053 "jdk/internal/util/Preconditions" "SIOOBE_FORMATTER" "Ljava/util/function/BiFunction;", Cond.methodLink RJ0 1059 yJ3_checkIndex_8e157, Cond.static yJ3_checkIndex_8e157, Cond.initialized RJ3, Cond.code yJ3_checkIndex_8e157 cJ3_checkIndex_8e157 3 (some .int), Cond.methodLink RJ0 498 yJ2_charAt_3b067, Cond.static yJ2_charAt_3b067, Cond.initialized RJ2]
def wsX3_readSentence_r4 : List Cond := [Cond.code yJ2_charAt_3b067 cJ2_charAt_3b067 2 (some .char), Cond.methodLink RJ2 67 yJ2_checkIndex_2214a, Cond.static yJ2_checkIndex_2214a, Cond.code yJ2_checkIndex_2214a cJ2_checkIndex_2214a 2 none, Cond.methodLink RJ2 48 yJ2_length_9d52b, Cond.static yJ2_length_9d52b, Cond.code yJ2_length_9d52b cJ2_length_9d52b 1 (some .int), Cond.methodLink RJ2 414 yJ0_checkIndex_df160, Cond.methodLink RJ2 71 yJ2_getChar_3b067, Cond.static yJ2_getChar_3b067, Cond.code yJ2_getChar_3b067 cJ2_getChar_3b067 2 (some .char), Cond.fieldLink RJ2 44 "java/lang/StringUTF16" "$assertionsDisabled" "Z", Cond.fieldLink RJ2 59 "java/lang/StringUTF16" "HI_BYTE_SHIFT" "I", Cond.fieldLink RJ2 63 "java/lang/StringUTF16" "LO_BYTE_SHIFT" "I", Cond.methodLink RX3 53 yX7_firstNeed, Cond.static yX7_firstNeed, Cond.code yX7_firstNeed cX7_firstNeed 1 (some .int), Cond.fieldLink RX7 21 "RoadDepots$Words" "FIRST" "[I", Cond.methodLink RX3 59 yX3_readNumber, Cond.instanceMethod yX3_readNumber, Cond.selects RX3 yX3_readNumber yX3_readNumber, Cond.code yX3_readNumber cX3_readNumber 5 (some .int), Cond.methodLink RX3 80 yX5_isFigure, Cond.instanceMethod yX5_isFigure]
def wsX3_readSentence_r5 : List Cond := [Cond.selects RX5 yX5_isFigure yX5_isFigure, Cond.code yX5_isFigure cX5_isFigure 3 (some .boolean), Cond.methodLink RX3 86 yX7_suits, Cond.static yX7_suits, Cond.code yX7_suits cX7_suits 3 (some .boolean), Cond.static yX8_isLength, Cond.initialized RX8, Cond.code yX8_isLength cX8_isLength 1 (some .boolean), Cond.methodLink RX3 62 yX7_secondNeed, Cond.static yX7_secondNeed, Cond.code yX7_secondNeed cX7_secondNeed 1 (some .int), Cond.fieldLink RX7 25 "RoadDepots$Words" "SECOND" "[I", Cond.methodLink RX3 65 yX3_readEnd, Cond.instanceMethod yX3_readEnd, Cond.selects RX3 yX3_readEnd yX3_readEnd, Cond.code yX3_readEnd cX3_readEnd 1 none, Cond.methodLink RX3 68 yX3_keep, Cond.instanceMethod yX3_keep, Cond.selects RX3 yX3_keep yX3_keep, Cond.code yX3_keep cX3_keep 4 none, Cond.fieldLink RX3 25 "RoadDepots$Reader" "count" "I", Cond.fieldLink RX3 9 "RoadDepots$Reader" "words" "[I", Cond.fieldLink RX3 15 "RoadDepots$Reader" "firsts" "[I", Cond.fieldLink RX3 18 "RoadDepots$Reader" "seconds" "[I"]
def wsX3_readSentence : List Cond := .code yX3_readSentence cX3_readSentence 4 none :: ((wsX3_readSentence_r1 ++ (wsX3_readSentence_r2 ++ (wsX3_readSentence_r3 ++ (wsX3_readSentence_r4 ++ wsX3_readSentence_r5)))) ++ wsX30 ++ wsX50)
def wsX3_read_r1 : List Cond := [Cond.fieldLink RX3 25 "RoadDepots$Reader" "count" "I", Cond.fieldLink RX3 29 "RoadDepots$Reader" "place" "I", Cond.fieldLink RX3 32 "RoadDepots$Reader" "fault" "I", Cond.fieldLink RX3 35 "RoadDepots$Reader" "villages" "I", Cond.fieldLink RX3 21 "RoadDepots$Reader" "text" "LRoadDepots$Text;", Cond.fieldLink RX3 38 "RoadDepots$Text" "size" "I", Cond.methodLink RX3 43 yX3_readSentence, Cond.instanceMethod yX3_readSentence, Cond.selects RX3 yX3_readSentence yX3_readSentence, Cond.initialized RX3, Cond.code yX3_readSentence cX3_readSentence 4 none, Cond.methodLink RX3 49 yX3_readWord, Cond.instanceMethod yX3_readWord, Cond.selects RX3 yX3_readWord yX3_readWord, Cond.code yX3_readWord cX3_readWord 3 (some .int), Cond.methodLink RX3 46 yX3_skipBlanks, Cond.instanceMethod yX3_skipBlanks, Cond.selects RX3 yX3_skipBlanks yX3_skipBlanks, Cond.code yX3_skipBlanks cX3_skipBlanks 1 none, Cond.methodLink RX3 83 yX5_byteAt, Cond.instanceMethod yX5_byteAt, Cond.selects RX5 yX5_byteAt yX5_byteAt, Cond.initialized RX5, Cond.code yX5_byteAt cX5_byteAt 2 (some .int)]
def wsX3_read_r2 : List Cond := [Cond.fieldLink RX5 15 "RoadDepots$Text" "size" "I", Cond.fieldLink RX5 9 "RoadDepots$Text" "bytes" "[B", Cond.methodLink RX3 72 yX5_isLetter, Cond.instanceMethod yX5_isLetter, Cond.selects RX5 yX5_isLetter yX5_isLetter, Cond.code yX5_isLetter cX5_isLetter 3 (some .boolean), Cond.methodLink RX5 19 yX5_byteAt, Cond.methodLink RX3 76 yX7_find, Cond.static yX7_find, Cond.initialized RX7, Cond.code yX7_find cX7_find 4 (some .int), Cond.methodLink RX7 11 yX7_spelling, Cond.static yX7_spelling, Cond.code yX7_spelling cX7_spelling 1 (some (.object "java/lang/String")), Cond.methodLink RX7 15 yX5_isWord, Cond.instanceMethod yX5_isWord, Cond.selects RX5 yX5_isWord yX5_isWord, Cond.code yX5_isWord cX5_isWord 5 (some .boolean), Cond.methodLink RX5 23 yJ0_length_8abf5, Cond.instanceMethod yJ0_length_8abf5, Cond.selects RJ0 yJ0_length_8abf5 yJ0_length_8abf5, Cond.initialized RJ0, Cond.code yJ0_length_8abf5 cJ0_length_8abf5 1 (some .int), Cond.fieldLink RJ0 9 "java/lang/String" "value" "[B"]
def wsX3_read_r3 : List Cond := [Cond.methodLink RJ0 335 yJ0_coder_7d493, Cond.instanceMethod yJ0_coder_7d493, Cond.selects RJ0 yJ0_coder_7d493 yJ0_coder_7d493, Cond.code yJ0_coder_7d493 cJ0_coder_7d493 1 (some .byte), Cond.fieldLink RJ0 38 "java/lang/String" "COMPACT_STRINGS" "Z", Cond.fieldLink RJ0 15 "java/lang/String" "coder" "B", Cond.methodLink RX5 29 yJ0_charAt_5068e, Cond.instanceMethod yJ0_charAt_5068e, Cond.selects RJ0 yJ0_charAt_5068e yJ0_charAt_5068e, Cond.code yJ0_charAt_5068e cJ0_charAt_5068e 2 (some .char), Cond.methodLink RJ0 492 yJ0_isLatin1_aae02, Cond.instanceMethod yJ0_isLatin1_aae02, Cond.selects RJ0 yJ0_isLatin1_aae02 yJ0_isLatin1_aae02, Cond.code yJ0_isLatin1_aae02 cJ0_isLatin1_aae02 1 (some .boolean), Cond.methodLink RJ0 495 yJ1_charAt_3b067, Cond.static yJ1_charAt_3b067, Cond.initialized RJ1, Cond.code yJ1_charAt_3b067 cJ1_charAt_3b067 2 (some .char), Cond.methodLink RJ1 9 yJ0_checkIndex_df160, Cond.static yJ0_checkIndex_df160, Cond.code yJ0_checkIndex_df160 cJ0_checkIndex_df160 2 none, Cond.fieldLink RJ0 1053 "jdk/internal/util/Preconditions" "SIOOBE_FORMATTER" "Ljava/util/function/BiFunction;", Cond.methodLink RJ0 1059 yJ3_checkIndex_8e157, Cond.static yJ3_checkIndex_8e157]
def wsX3_read_r4 : List Cond := [Cond.initialized RJ3, Cond.code yJ3_checkIndex_8e157 cJ3_checkIndex_8e157 3 (some .int), Cond.methodLink RJ0 498 yJ2_charAt_3b067, Cond.static yJ2_charAt_3b067, Cond.initialized RJ2, Cond.code yJ2_charAt_3b067 cJ2_charAt_3b067 2 (some .char), Cond.methodLink RJ2 67 yJ2_checkIndex_2214a, Cond.static yJ2_checkIndex_2214a, Cond.code yJ2_checkIndex_2214a cJ2_checkIndex_2214a 2 none, Cond.methodLink RJ2 48 yJ2_length_9d52b, Cond.static yJ2_length_9d52b, Cond.code yJ2_length_9d52b cJ2_length_9d52b 1 (some .int), Cond.methodLink RJ2 414 yJ0_checkIndex_df160, Cond.methodLink RJ2 71 yJ2_getChar_3b067, Cond.static yJ2_getChar_3b067, Cond.code yJ2_getChar_3b067 cJ2_getChar_3b067 2 (some .char), Cond.fieldLink RJ2 44 "java/lang/StringUTF16" "$assertionsDisabled" "Z", Cond.fieldLink RJ2 59 "java/lang/StringUTF16" "HI_BYTE_SHIFT" "I", Cond.fieldLink RJ2 63 "java/lang/StringUTF16" "LO_BYTE_SHIFT" "I", Cond.methodLink RX3 53 yX7_firstNeed, Cond.static yX7_firstNeed, Cond.code yX7_firstNeed cX7_firstNeed 1 (some .int), Cond.fieldLink RX7 21 "RoadDepots$Words" "FIRST" "[I", Cond.methodLink RX3 59 yX3_readNumber]
def wsX3_read_r5 : List Cond := [Cond.instanceMethod yX3_readNumber, Cond.selects RX3 yX3_readNumber yX3_readNumber, Cond.code yX3_readNumber cX3_readNumber 5 (some .int), Cond.methodLink RX3 80 yX5_isFigure, Cond.instanceMethod yX5_isFigure, Cond.selects RX5 yX5_isFigure yX5_isFigure, Cond.code yX5_isFigure cX5_isFigure 3 (some .boolean), Cond.methodLink RX3 86 yX7_suits, Cond.static yX7_suits, Cond.code yX7_suits cX7_suits 3 (some .boolean), Cond.static yX8_isLength, Cond.initialized RX8, Cond.code yX8_isLength cX8_isLength 1 (some .boolean), Cond.methodLink RX3 62 yX7_secondNeed, Cond.static yX7_secondNeed, Cond.code yX7_secondNeed cX7_secondNeed 1 (some .int), Cond.fieldLink RX7 25 "RoadDepots$Words" "SECOND" "[I", Cond.methodLink RX3 65 yX3_readEnd, Cond.instanceMethod yX3_readEnd, Cond.selects RX3 yX3_readEnd yX3_readEnd, Cond.code yX3_readEnd cX3_readEnd 1 none, Cond.methodLink RX3 68 yX3_keep, Cond.instanceMethod yX3_keep, Cond.selects RX3 yX3_keep yX3_keep]
def wsX3_read_r6 : List Cond := [Cond.code yX3_keep cX3_keep 4 none, Cond.fieldLink RX3 9 "RoadDepots$Reader" "words" "[I", Cond.fieldLink RX3 15 "RoadDepots$Reader" "firsts" "[I", Cond.fieldLink RX3 18 "RoadDepots$Reader" "seconds" "[I"]
def wsX3_read : List Cond := .code yX3_read cX3_read 3 (some .int) :: ((wsX3_read_r1 ++ (wsX3_read_r2 ++ (wsX3_read_r3 ++ (wsX3_read_r4 ++ (wsX3_read_r5 ++ wsX3_read_r6))))) ++ wsX30 ++ wsX50)
def wsX4_init : List Cond := .code yX4_init cX4_init 5 none :: ([.methodLink RX4 3 objectInit, .instanceMethod objectInit, .code objectInit ⟨#[0xb1]⟩ 1 none, .fieldLink RX4 9 "RoadDepots$Teller" "land" "LRoadDepots$Land;", .fieldLink RX4 15 "RoadDepots$Teller" "ways" "LRoadDepots$Ways;", .fieldLink RX4 19 "RoadDepots$Teller" "depots" "LRoadDepots$Depots;", .fieldLink RX4 23 "RoadDepots$Teller" "line" "LRoadDepots$Line;"] ++ wsX40)
def wsX4_tellNearest_r1 : List Cond := [Cond.fieldLink RX4 19 "RoadDepots$Teller" "depots" "LRoadDepots$Depots;", Cond.fieldLink RX4 23 "RoadDepots$Teller" "line" "LRoadDepots$Line;", Cond.fieldLink RX4 9 "RoadDepots$Teller" "land" "LRoadDepots$Land;", Cond.methodLink RX4 68 yX0_closest, Cond.instanceMethod yX0_closest, Cond.selects RX0 yX0_closest yX0_closest, Cond.initialized RX0, Cond.code yX0_closest cX0_closest 5 (some .int), Cond.constant RX0 19 (1000000), Cond.fieldLink RX0 15 "RoadDepots$Depots" "land" "LRoadDepots$Land;", Cond.fieldLink RX0 20 "RoadDepots$Land" "count" "I", Cond.fieldLink RX0 26 "RoadDepots$Land" "open" "[Z", Cond.methodLink RX0 30 yX1_gap, Cond.instanceMethod yX1_gap, Cond.selects RX1 yX1_gap yX1_gap, Cond.initialized RX1, Cond.code yX1_gap cX1_gap 3 (some .int), Cond.fieldLink RX1 22 "RoadDepots$Land" "gaps" "[I", Cond.methodLink RX4 71 yX2_put, Cond.instanceMethod yX2_put, Cond.selects RX2 yX2_put yX2_put, Cond.initialized RX2, Cond.code yX2_put cX2_put 2 none, Cond.fieldLink RX2 15 "RoadDepots$Line" "size" "I"]
def wsX4_tellNearest_r2 : List Cond := [Cond.fieldLink RX2 9 "RoadDepots$Line" "signs" "[B", Cond.methodLink RX4 33 yX2_putNumber, Cond.instanceMethod yX2_putNumber, Cond.selects RX2 yX2_putNumber yX2_putNumber, Cond.code yX2_putNumber cX2_putNumber 4 none, Cond.methodLink RX2 19 yX2_put, Cond.methodLink RX4 49 yX1_gap]
def wsX4_tellNearest : List Cond := .code yX4_tellNearest cX4_tellNearest 3 none :: ((wsX4_tellNearest_r1 ++ wsX4_tellNearest_r2) ++ wsX40 ++ wsX00 ++ wsX10 ++ wsX20)
def wsX6_walk : List Cond := .code yX6_walk cX6_walk 8 none :: ([.fieldLink RX6 9 "RoadDepots$Ways" "trail" "[I", .fieldLink RX6 18 "RoadDepots$Ways" "land" "LRoadDepots$Land;", .fieldLink RX6 22 "RoadDepots$Land" "roots" "[I", .fieldLink RX6 27 "RoadDepots$Ways" "steps" "I"] ++ wsX60 ++ wsX10)
def wsX4_tellWay_r1 : List Cond := [Cond.fieldLink RX4 15 "RoadDepots$Teller" "ways" "LRoadDepots$Ways;", Cond.fieldLink RX4 79 "RoadDepots$Ways" "steps" "I", Cond.fieldLink RX4 23 "RoadDepots$Teller" "line" "LRoadDepots$Line;", Cond.fieldLink RX4 83 "RoadDepots$Ways" "trail" "[I", Cond.methodLink RX4 74 yX6_walk, Cond.instanceMethod yX6_walk, Cond.selects RX6 yX6_walk yX6_walk, Cond.initialized RX6, Cond.code yX6_walk cX6_walk 8 none, Cond.fieldLink RX6 9 "RoadDepots$Ways" "trail" "[I", Cond.fieldLink RX6 18 "RoadDepots$Ways" "land" "LRoadDepots$Land;", Cond.fieldLink RX6 22 "RoadDepots$Land" "roots" "[I", Cond.fieldLink RX6 27 "RoadDepots$Ways" "steps" "I", Cond.methodLink RX4 71 yX2_put, Cond.instanceMethod yX2_put, Cond.selects RX2 yX2_put yX2_put, Cond.initialized RX2, Cond.code yX2_put cX2_put 2 none, Cond.fieldLink RX2 15 "RoadDepots$Line" "size" "I", Cond.fieldLink RX2 9 "RoadDepots$Line" "signs" "[B", Cond.methodLink RX4 33 yX2_putNumber, Cond.instanceMethod yX2_putNumber, Cond.selects RX2 yX2_putNumber yX2_putNumber, Cond.code yX2_putNumber cX2_putNumber 4 none]
def wsX4_tellWay_r2 : List Cond := [Cond.methodLink RX2 19 yX2_put]
def wsX4_tellWay : List Cond := .code yX4_tellWay cX4_tellWay 4 none :: ((wsX4_tellWay_r1 ++ wsX4_tellWay_r2) ++ wsX40 ++ wsX60 ++ wsX10 ++ wsX20)
def wsX4_tellAll : List Cond := .code yX4_tellAll cX4_tellAll 3 none :: ([.fieldLink RX4 9 "RoadDepots$Teller" "land" "LRoadDepots$Land;", .fieldLink RX4 87 "RoadDepots$Land" "openCount" "I", .fieldLink RX4 23 "RoadDepots$Teller" "line" "LRoadDepots$Line;", .fieldLink RX4 90 "RoadDepots$Land" "count" "I", .fieldLink RX4 93 "RoadDepots$Land" "open" "[Z", .methodLink RX4 71 yX2_put, .instanceMethod yX2_put, .selects RX2 yX2_put yX2_put, .initialized RX2, .code yX2_put cX2_put 2 none, .fieldLink RX2 15 "RoadDepots$Line" "size" "I", .fieldLink RX2 9 "RoadDepots$Line" "signs" "[B", .methodLink RX4 33 yX2_putNumber, .instanceMethod yX2_putNumber, .selects RX2 yX2_putNumber yX2_putNumber, .code yX2_putNumber cX2_putNumber 4 none, .methodLink RX2 19 yX2_put] ++ wsX40 ++ wsX10 ++ wsX20)
def wsX4_tell_r1 : List Cond := [Cond.fieldLink RX4 23 "RoadDepots$Teller" "line" "LRoadDepots$Line;", Cond.fieldLink RX4 9 "RoadDepots$Teller" "land" "LRoadDepots$Land;", Cond.fieldLink RX4 19 "RoadDepots$Teller" "depots" "LRoadDepots$Depots;", Cond.methodLink RX4 27 yX1_settle, Cond.instanceMethod yX1_settle, Cond.selects RX1 yX1_settle yX1_settle, Cond.initialized RX1, Cond.code yX1_settle cX1_settle 4 (some .int), Cond.fieldLink RX1 29 "RoadDepots$Land" "count" "I", Cond.fieldLink RX1 9 "RoadDepots$Land" "roots" "[I", Cond.fieldLink RX1 15 "RoadDepots$Land" "lengths" "[I", Cond.fieldLink RX1 18 "RoadDepots$Land" "open" "[Z", Cond.methodLink RX1 36 yX1_has, Cond.instanceMethod yX1_has, Cond.selects RX1 yX1_has yX1_has, Cond.code yX1_has cX1_has 2 (some .boolean), Cond.methodLink RX1 40 yX1_measure, Cond.instanceMethod yX1_measure, Cond.selects RX1 yX1_measure yX1_measure, Cond.code yX1_measure cX1_measure 5 none, Cond.fieldLink RX1 22 "RoadDepots$Land" "gaps" "[I", Cond.methodLink RX1 72 yX1_gap, Cond.instanceMethod yX1_gap, Cond.selects RX1 yX1_gap yX1_gap]
def wsX4_tell_r2 : List Cond := [Cond.code yX1_gap cX1_gap 3 (some .int), Cond.methodLink RX4 33 yX2_putNumber, Cond.instanceMethod yX2_putNumber, Cond.selects RX2 yX2_putNumber yX2_putNumber, Cond.initialized RX2, Cond.code yX2_putNumber cX2_putNumber 4 none, Cond.methodLink RX2 19 yX2_put, Cond.instanceMethod yX2_put, Cond.selects RX2 yX2_put yX2_put, Cond.code yX2_put cX2_put 2 none, Cond.fieldLink RX2 15 "RoadDepots$Line" "size" "I", Cond.fieldLink RX2 9 "RoadDepots$Line" "signs" "[B", Cond.methodLink RX4 39 yX1_setDepot, Cond.instanceMethod yX1_setDepot, Cond.selects RX1 yX1_setDepot yX1_setDepot, Cond.code yX1_setDepot cX1_setDepot 3 (some .int), Cond.fieldLink RX1 33 "RoadDepots$Land" "openCount" "I", Cond.methodLink RX4 43 yX1_setRoad, Cond.instanceMethod yX1_setRoad, Cond.selects RX1 yX1_setRoad yX1_setRoad, Cond.code yX1_setRoad cX1_setRoad 5 (some .int), Cond.methodLink RX4 46 yX4_tellNearest, Cond.instanceMethod yX4_tellNearest, Cond.selects RX4 yX4_tellNearest yX4_tellNearest]
def wsX4_tell_r3 : List Cond := [Cond.initialized RX4, Cond.code yX4_tellNearest cX4_tellNearest 3 none, Cond.methodLink RX4 68 yX0_closest, Cond.instanceMethod yX0_closest, Cond.selects RX0 yX0_closest yX0_closest, Cond.initialized RX0, Cond.code yX0_closest cX0_closest 5 (some .int), Cond.constant RX0 19 (1000000), Cond.fieldLink RX0 15 "RoadDepots$Depots" "land" "LRoadDepots$Land;", Cond.fieldLink RX0 20 "RoadDepots$Land" "count" "I", Cond.fieldLink RX0 26 "RoadDepots$Land" "open" "[Z", Cond.methodLink RX0 30 yX1_gap, Cond.methodLink RX4 71 yX2_put, Cond.methodLink RX4 49 yX1_gap, Cond.methodLink RX4 52 yX4_tellWay, Cond.instanceMethod yX4_tellWay, Cond.selects RX4 yX4_tellWay yX4_tellWay, Cond.code yX4_tellWay cX4_tellWay 4 none, Cond.fieldLink RX4 15 "RoadDepots$Teller" "ways" "LRoadDepots$Ways;", Cond.fieldLink RX4 79 "RoadDepots$Ways" "steps" "I", Cond.fieldLink RX4 83 "RoadDepots$Ways" "trail" "[I", Cond.methodLink RX4 74 yX6_walk, Cond.instanceMethod yX6_walk, Cond.selects RX6 yX6_walk yX6_walk]
def wsX4_tell_r4 : List Cond := [Cond.initialized RX6, Cond.code yX6_walk cX6_walk 8 none, Cond.fieldLink RX6 9 "RoadDepots$Ways" "trail" "[I", Cond.fieldLink RX6 18 "RoadDepots$Ways" "land" "LRoadDepots$Land;", Cond.fieldLink RX6 22 "RoadDepots$Land" "roots" "[I", Cond.fieldLink RX6 27 "RoadDepots$Ways" "steps" "I", Cond.methodLink RX4 56 yX0_countWithin, Cond.instanceMethod yX0_countWithin, Cond.selects RX0 yX0_countWithin yX0_countWithin, Cond.code yX0_countWithin cX0_countWithin 5 (some .int), Cond.methodLink RX4 61 yX4_tellAll, Cond.instanceMethod yX4_tellAll, Cond.selects RX4 yX4_tellAll yX4_tellAll, Cond.code yX4_tellAll cX4_tellAll 3 none, Cond.fieldLink RX4 87 "RoadDepots$Land" "openCount" "I", Cond.fieldLink RX4 90 "RoadDepots$Land" "count" "I", Cond.fieldLink RX4 93 "RoadDepots$Land" "open" "[Z", Cond.methodLink RX4 64 yX0_total, Cond.instanceMethod yX0_total, Cond.selects RX0 yX0_total yX0_total, Cond.code yX0_total cX0_total 4 (some .int)]
def wsX4_tell : List Cond := .code yX4_tell cX4_tell 4 none :: ((wsX4_tell_r1 ++ (wsX4_tell_r2 ++ (wsX4_tell_r3 ++ wsX4_tell_r4))) ++ wsX40 ++ wsX10 ++ wsX20 ++ wsX00 ++ wsX60)
def wsX5_init : List Cond := .code yX5_init cX5_init 1 none :: ([.methodLink RX5 3 objectInit, .instanceMethod objectInit, .code objectInit ⟨#[0xb1]⟩ 1 none, .arrayClass .byte, .fieldLink RX5 9 "RoadDepots$Text" "bytes" "[B", .fieldLink RX5 15 "RoadDepots$Text" "size" "I"] ++ wsX50)
def wsX5_put : List Cond := .code yX5_put cX5_put 2 (some .int) :: ([.fieldLink RX5 15 "RoadDepots$Text" "size" "I", .fieldLink RX5 9 "RoadDepots$Text" "bytes" "[B"] ++ wsX50)
def wsX5_empty : List Cond := .code yX5_empty cX5_empty 2 (some .int) :: ([.fieldLink RX5 15 "RoadDepots$Text" "size" "I"] ++ wsX50)
def wsX6_init : List Cond := .code yX6_init cX6_init 2 none :: ([.methodLink RX6 3 objectInit, .instanceMethod objectInit, .code objectInit ⟨#[0xb1]⟩ 1 none, .arrayClass .int, .fieldLink RX6 9 "RoadDepots$Ways" "trail" "[I", .fieldLink RX6 15 "RoadDepots$Ways" "weights" "[I", .fieldLink RX6 18 "RoadDepots$Ways" "land" "LRoadDepots$Land;"] ++ wsX60)
def wsX6_span : List Cond := .code yX6_span cX6_span 7 (some .int) :: ([.fieldLink RX6 18 "RoadDepots$Ways" "land" "LRoadDepots$Land;", .fieldLink RX6 31 "RoadDepots$Land" "count" "I", .methodLink RX6 34 yX1_gap, .instanceMethod yX1_gap, .selects RX1 yX1_gap yX1_gap, .initialized RX1, .code yX1_gap cX1_gap 3 (some .int), .fieldLink RX1 22 "RoadDepots$Land" "gaps" "[I"] ++ wsX60 ++ wsX10)
def wsX6_weigh : List Cond := .code yX6_weigh cX6_weigh 2 none :: ([.fieldLink RX6 18 "RoadDepots$Ways" "land" "LRoadDepots$Land;", .fieldLink RX6 31 "RoadDepots$Land" "count" "I", .fieldLink RX6 15 "RoadDepots$Ways" "weights" "[I", .fieldLink RX6 22 "RoadDepots$Land" "roots" "[I"] ++ wsX60 ++ wsX10)
def wsX6_farthest : List Cond := .code yX6_farthest cX6_farthest 4 (some .int) :: ([.fieldLink RX6 18 "RoadDepots$Ways" "land" "LRoadDepots$Land;", .fieldLink RX6 31 "RoadDepots$Land" "count" "I", .methodLink RX6 54 Lib.Math.max.name, .static Lib.Math.max.name, .initialized "java/lang/Math", .code Lib.Math.max.name Lib.Math.max.code 2 (some .int), .methodLink RX6 34 yX1_gap, .instanceMethod yX1_gap, .selects RX1 yX1_gap yX1_gap, .initialized RX1, .code yX1_gap cX1_gap 3 (some .int), .fieldLink RX1 22 "RoadDepots$Land" "gaps" "[I"] ++ wsX60 ++ wsX10)
def wsX6_distanceOfAll : List Cond := .code yX6_distanceOfAll cX6_distanceOfAll 4 (some .int) :: ([.fieldLink RX6 18 "RoadDepots$Ways" "land" "LRoadDepots$Land;", .fieldLink RX6 31 "RoadDepots$Land" "count" "I", .methodLink RX6 34 yX1_gap, .instanceMethod yX1_gap, .selects RX1 yX1_gap yX1_gap, .initialized RX1, .code yX1_gap cX1_gap 3 (some .int), .fieldLink RX1 22 "RoadDepots$Land" "gaps" "[I"] ++ wsX60 ++ wsX10)
def wsX6_greatestRest : List Cond := .code yX6_greatestRest cX6_greatestRest 4 (some .int) :: ([.fieldLink RX6 18 "RoadDepots$Ways" "land" "LRoadDepots$Land;", .fieldLink RX6 31 "RoadDepots$Land" "count" "I", .fieldLink RX6 15 "RoadDepots$Ways" "weights" "[I", .fieldLink RX6 22 "RoadDepots$Land" "roots" "[I", .methodLink RX6 54 Lib.Math.max.name, .static Lib.Math.max.name, .initialized "java/lang/Math", .code Lib.Math.max.name Lib.Math.max.code 2 (some .int)] ++ wsX60 ++ wsX10)
def wsX6_burden_r1 : List Cond := [Cond.methodLink RX6 44 yX6_farthest, Cond.instanceMethod yX6_farthest, Cond.selects RX6 yX6_farthest yX6_farthest, Cond.initialized RX6, Cond.code yX6_farthest cX6_farthest 4 (some .int), Cond.fieldLink RX6 18 "RoadDepots$Ways" "land" "LRoadDepots$Land;", Cond.fieldLink RX6 31 "RoadDepots$Land" "count" "I", Cond.methodLink RX6 54 Lib.Math.max.name, Cond.static Lib.Math.max.name, Cond.initialized "java/lang/Math", Cond.code Lib.Math.max.name Lib.Math.max.code 2 (some .int), Cond.methodLink RX6 34 yX1_gap, Cond.instanceMethod yX1_gap, Cond.selects RX1 yX1_gap yX1_gap, Cond.initialized RX1, Cond.code yX1_gap cX1_gap 3 (some .int), Cond.fieldLink RX1 22 "RoadDepots$Land" "gaps" "[I", Cond.methodLink RX6 48 yX6_distanceOfAll, Cond.instanceMethod yX6_distanceOfAll, Cond.selects RX6 yX6_distanceOfAll yX6_distanceOfAll, Cond.code yX6_distanceOfAll cX6_distanceOfAll 4 (some .int), Cond.methodLink RX6 51 yX6_greatestRest, Cond.instanceMethod yX6_greatestRest, Cond.selects RX6 yX6_greatestRest yX6_greatestRest]
def wsX6_burden_r2 : List Cond := [Cond.code yX6_greatestRest cX6_greatestRest 4 (some .int), Cond.fieldLink RX6 15 "RoadDepots$Ways" "weights" "[I", Cond.fieldLink RX6 22 "RoadDepots$Land" "roots" "[I"]
def wsX6_burden : List Cond := .code yX6_burden cX6_burden 3 (some .int) :: ((wsX6_burden_r1 ++ wsX6_burden_r2) ++ wsX60 ++ wsX10)
def wsX6_heart_r1 : List Cond := [Cond.fieldLink RX6 18 "RoadDepots$Ways" "land" "LRoadDepots$Land;", Cond.fieldLink RX6 31 "RoadDepots$Land" "count" "I", Cond.methodLink RX6 38 yX6_weigh, Cond.instanceMethod yX6_weigh, Cond.selects RX6 yX6_weigh yX6_weigh, Cond.initialized RX6, Cond.code yX6_weigh cX6_weigh 2 none, Cond.fieldLink RX6 15 "RoadDepots$Ways" "weights" "[I", Cond.fieldLink RX6 22 "RoadDepots$Land" "roots" "[I", Cond.methodLink RX6 41 yX6_burden, Cond.instanceMethod yX6_burden, Cond.selects RX6 yX6_burden yX6_burden, Cond.code yX6_burden cX6_burden 3 (some .int), Cond.methodLink RX6 44 yX6_farthest, Cond.instanceMethod yX6_farthest, Cond.selects RX6 yX6_farthest yX6_farthest, Cond.code yX6_farthest cX6_farthest 4 (some .int), Cond.methodLink RX6 54 Lib.Math.max.name, Cond.static Lib.Math.max.name, Cond.initialized "java/lang/Math", Cond.code Lib.Math.max.name Lib.Math.max.code 2 (some .int), Cond.methodLink RX6 34 yX1_gap, Cond.instanceMethod yX1_gap, Cond.selects RX1 yX1_gap yX1_gap]
def wsX6_heart_r2 : List Cond := [Cond.initialized RX1, Cond.code yX1_gap cX1_gap 3 (some .int), Cond.fieldLink RX1 22 "RoadDepots$Land" "gaps" "[I", Cond.methodLink RX6 48 yX6_distanceOfAll, Cond.instanceMethod yX6_distanceOfAll, Cond.selects RX6 yX6_distanceOfAll yX6_distanceOfAll, Cond.code yX6_distanceOfAll cX6_distanceOfAll 4 (some .int), Cond.methodLink RX6 51 yX6_greatestRest, Cond.instanceMethod yX6_greatestRest, Cond.selects RX6 yX6_greatestRest yX6_greatestRest, Cond.code yX6_greatestRest cX6_greatestRest 4 (some .int)]
def wsX6_heart : List Cond := .code yX6_heart cX6_heart 6 (some .int) :: ((wsX6_heart_r1 ++ wsX6_heart_r2) ++ wsX60 ++ wsX10)
def wsX8_init_r1 : List Cond := [Cond.methodLink RX8 3 objectInit, Cond.instanceMethod objectInit, Cond.code objectInit ⟨#[0xb1]⟩ 1 none, Cond.classLink RX8 9 RX1, Cond.instantiable RX1 6, Cond.initialized RX1, Cond.fieldLink RX8 12 "RoadDepots" "land" "LRoadDepots$Land;", Cond.classLink RX8 16 RX6, Cond.instantiable RX6 4, Cond.initialized RX6, Cond.fieldLink RX8 21 "RoadDepots" "ways" "LRoadDepots$Ways;", Cond.classLink RX8 25 RX0, Cond.instantiable RX0 2, Cond.initialized RX0, Cond.fieldLink RX8 28 "RoadDepots" "depots" "LRoadDepots$Depots;", Cond.classLink RX8 32 RX5, Cond.instantiable RX5 2, Cond.initialized RX5, Cond.fieldLink RX8 35 "RoadDepots" "text" "LRoadDepots$Text;", Cond.classLink RX8 39 RX3, Cond.instantiable RX3 8, Cond.initialized RX3, Cond.fieldLink RX8 44 "RoadDepots" "reader" "LRoadDepots$Reader;", Cond.classLink RX8 48 RX2]
def wsX8_init_r2 : List Cond := [Cond.instantiable RX2 2, Cond.initialized RX2, Cond.fieldLink RX8 51 "RoadDepots" "line" "LRoadDepots$Line;", Cond.classLink RX8 55 RX4, Cond.instantiable RX4 4, Cond.initialized RX4, Cond.fieldLink RX8 60 "RoadDepots" "teller" "LRoadDepots$Teller;", Cond.methodLink RX8 11 yX1_init, Cond.instanceMethod yX1_init, Cond.code yX1_init cX1_init 1 none, Cond.methodLink RX1 3 objectInit, Cond.arrayClass .int, Cond.fieldLink RX1 9 "RoadDepots$Land" "roots" "[I", Cond.fieldLink RX1 15 "RoadDepots$Land" "lengths" "[I", Cond.arrayClass .boolean, Cond.fieldLink RX1 18 "RoadDepots$Land" "open" "[Z", Cond.fieldLink RX1 22 "RoadDepots$Land" "gaps" "[I", Cond.methodLink RX1 25 yX1_empty, Cond.instanceMethod yX1_empty, Cond.selects RX1 yX1_empty yX1_empty, Cond.code yX1_empty cX1_empty 2 (some .int), Cond.fieldLink RX1 29 "RoadDepots$Land" "count" "I", Cond.fieldLink RX1 33 "RoadDepots$Land" "openCount" "I", Cond.methodLink RX8 18 yX6_init]
def wsX8_init_r3 : List Cond := [Cond.instanceMethod yX6_init, Cond.code yX6_init cX6_init 2 none, Cond.methodLink RX6 3 objectInit, Cond.fieldLink RX6 9 "RoadDepots$Ways" "trail" "[I", Cond.fieldLink RX6 15 "RoadDepots$Ways" "weights" "[I", Cond.fieldLink RX6 18 "RoadDepots$Ways" "land" "LRoadDepots$Land;", Cond.methodLink RX8 27 yX0_init, Cond.instanceMethod yX0_init, Cond.code yX0_init cX0_init 2 none, Cond.methodLink RX0 3 objectInit, Cond.fieldLink RX0 9 "RoadDepots$Depots" "reaches" "[I", Cond.fieldLink RX0 15 "RoadDepots$Depots" "land" "LRoadDepots$Land;", Cond.methodLink RX8 34 yX5_init, Cond.instanceMethod yX5_init, Cond.code yX5_init cX5_init 1 none, Cond.methodLink RX5 3 objectInit, Cond.arrayClass .byte, Cond.fieldLink RX5 9 "RoadDepots$Text" "bytes" "[B", Cond.fieldLink RX5 15 "RoadDepots$Text" "size" "I", Cond.methodLink RX8 41 yX3_init, Cond.instanceMethod yX3_init, Cond.code yX3_init cX3_init 2 none, Cond.methodLink RX3 3 objectInit, Cond.fieldLink RX3 9 "RoadDepots$Reader" "words" "[I"]
def wsX8_init_r4 : List Cond := [Cond.fieldLink RX3 15 "RoadDepots$Reader" "firsts" "[I", Cond.fieldLink RX3 18 "RoadDepots$Reader" "seconds" "[I", Cond.fieldLink RX3 21 "RoadDepots$Reader" "text" "LRoadDepots$Text;", Cond.methodLink RX8 50 yX2_init, Cond.instanceMethod yX2_init, Cond.code yX2_init cX2_init 1 none, Cond.methodLink RX2 3 objectInit, Cond.fieldLink RX2 9 "RoadDepots$Line" "signs" "[B", Cond.fieldLink RX2 15 "RoadDepots$Line" "size" "I", Cond.methodLink RX8 57 yX4_init, Cond.instanceMethod yX4_init, Cond.code yX4_init cX4_init 5 none, Cond.methodLink RX4 3 objectInit, Cond.fieldLink RX4 9 "RoadDepots$Teller" "land" "LRoadDepots$Land;", Cond.fieldLink RX4 15 "RoadDepots$Teller" "ways" "LRoadDepots$Ways;", Cond.fieldLink RX4 19 "RoadDepots$Teller" "depots" "LRoadDepots$Depots;", Cond.fieldLink RX4 23 "RoadDepots$Teller" "line" "LRoadDepots$Line;"]
def wsX8_init : List Cond := .code yX8_init cX8_init 1 none :: ((wsX8_init_r1 ++ (wsX8_init_r2 ++ (wsX8_init_r3 ++ wsX8_init_r4))) ++ wsX10 ++ wsX80 ++ wsX60 ++ wsX00 ++ wsX50 ++ wsX30 ++ wsX20 ++ wsX40)
def wsX8_refuseBad : List Cond := .code yX8_refuseBad cX8_refuseBad 1 (some .int) :: ([.fieldLink RX8 200 "RoadDepots" "badCalls" "I"] ++ wsX80)
def wsX8_refuseFull : List Cond := .code yX8_refuseFull cX8_refuseFull 1 (some .int) :: ([.fieldLink RX8 203 "RoadDepots" "fullCalls" "I"] ++ wsX80)
def wsX8_add_r1 : List Cond := [Cond.fieldLink RX8 12 "RoadDepots" "land" "LRoadDepots$Land;", Cond.fieldLink RX8 75 "RoadDepots$Land" "count" "I", Cond.methodLink RX8 64 yX1_has, Cond.instanceMethod yX1_has, Cond.selects RX1 yX1_has yX1_has, Cond.initialized RX1, Cond.code yX1_has cX1_has 2 (some .boolean), Cond.fieldLink RX1 29 "RoadDepots$Land" "count" "I", Cond.methodLink RX8 68 yX8_isLength, Cond.static yX8_isLength, Cond.initialized RX8, Cond.code yX8_isLength cX8_isLength 1 (some .boolean), Cond.methodLink RX8 71 yX8_refuseBad, Cond.instanceMethod yX8_refuseBad, Cond.selects RX8 yX8_refuseBad yX8_refuseBad, Cond.code yX8_refuseBad cX8_refuseBad 1 (some .int), Cond.fieldLink RX8 200 "RoadDepots" "badCalls" "I", Cond.methodLink RX8 79 yX8_refuseFull, Cond.instanceMethod yX8_refuseFull, Cond.selects RX8 yX8_refuseFull yX8_refuseFull, Cond.code yX8_refuseFull cX8_refuseFull 1 (some .int), Cond.fieldLink RX8 203 "RoadDepots" "fullCalls" "I", Cond.methodLink RX8 82 yX1_settle, Cond.instanceMethod yX1_settle]
def wsX8_add_r2 : List Cond := [Cond.selects RX1 yX1_settle yX1_settle, Cond.code yX1_settle cX1_settle 4 (some .int), Cond.fieldLink RX1 9 "RoadDepots$Land" "roots" "[I", Cond.fieldLink RX1 15 "RoadDepots$Land" "lengths" "[I", Cond.fieldLink RX1 18 "RoadDepots$Land" "open" "[Z", Cond.methodLink RX1 36 yX1_has, Cond.methodLink RX1 40 yX1_measure, Cond.instanceMethod yX1_measure, Cond.selects RX1 yX1_measure yX1_measure, Cond.code yX1_measure cX1_measure 5 none, Cond.fieldLink RX1 22 "RoadDepots$Land" "gaps" "[I", Cond.methodLink RX1 72 yX1_gap, Cond.instanceMethod yX1_gap, Cond.selects RX1 yX1_gap yX1_gap, Cond.code yX1_gap cX1_gap 3 (some .int)]
def wsX8_add : List Cond := .code yX8_add cX8_add 3 (some .int) :: ((wsX8_add_r1 ++ wsX8_add_r2) ++ wsX80 ++ wsX10)
def wsX8_isUpTo : List Cond := .code yX8_isUpTo cX8_isUpTo 2 (some .boolean) :: ([])
def wsX8_depot : List Cond := .code yX8_depot cX8_depot 3 (some .int) :: ([.fieldLink RX8 12 "RoadDepots" "land" "LRoadDepots$Land;", .methodLink RX8 64 yX1_has, .instanceMethod yX1_has, .selects RX1 yX1_has yX1_has, .initialized RX1, .code yX1_has cX1_has 2 (some .boolean), .fieldLink RX1 29 "RoadDepots$Land" "count" "I", .methodLink RX8 86 yX8_isUpTo, .static yX8_isUpTo, .initialized RX8, .code yX8_isUpTo cX8_isUpTo 2 (some .boolean), .methodLink RX8 71 yX8_refuseBad, .instanceMethod yX8_refuseBad, .selects RX8 yX8_refuseBad yX8_refuseBad, .code yX8_refuseBad cX8_refuseBad 1 (some .int), .fieldLink RX8 200 "RoadDepots" "badCalls" "I", .methodLink RX8 90 yX1_setDepot, .instanceMethod yX1_setDepot, .selects RX1 yX1_setDepot yX1_setDepot, .code yX1_setDepot cX1_setDepot 3 (some .int), .fieldLink RX1 18 "RoadDepots$Land" "open" "[Z", .fieldLink RX1 33 "RoadDepots$Land" "openCount" "I"] ++ wsX80 ++ wsX10)
def wsX8_road_r1 : List Cond := [Cond.fieldLink RX8 12 "RoadDepots" "land" "LRoadDepots$Land;", Cond.methodLink RX8 64 yX1_has, Cond.instanceMethod yX1_has, Cond.selects RX1 yX1_has yX1_has, Cond.initialized RX1, Cond.code yX1_has cX1_has 2 (some .boolean), Cond.fieldLink RX1 29 "RoadDepots$Land" "count" "I", Cond.methodLink RX8 68 yX8_isLength, Cond.static yX8_isLength, Cond.initialized RX8, Cond.code yX8_isLength cX8_isLength 1 (some .boolean), Cond.methodLink RX8 71 yX8_refuseBad, Cond.instanceMethod yX8_refuseBad, Cond.selects RX8 yX8_refuseBad yX8_refuseBad, Cond.code yX8_refuseBad cX8_refuseBad 1 (some .int), Cond.fieldLink RX8 200 "RoadDepots" "badCalls" "I", Cond.methodLink RX8 94 yX1_setRoad, Cond.instanceMethod yX1_setRoad, Cond.selects RX1 yX1_setRoad yX1_setRoad, Cond.code yX1_setRoad cX1_setRoad 5 (some .int), Cond.fieldLink RX1 15 "RoadDepots$Land" "lengths" "[I", Cond.methodLink RX1 40 yX1_measure, Cond.instanceMethod yX1_measure, Cond.selects RX1 yX1_measure yX1_measure]
def wsX8_road_r2 : List Cond := [Cond.code yX1_measure cX1_measure 5 none, Cond.fieldLink RX1 9 "RoadDepots$Land" "roots" "[I", Cond.fieldLink RX1 22 "RoadDepots$Land" "gaps" "[I", Cond.methodLink RX1 36 yX1_has, Cond.methodLink RX1 72 yX1_gap, Cond.instanceMethod yX1_gap, Cond.selects RX1 yX1_gap yX1_gap, Cond.code yX1_gap cX1_gap 3 (some .int)]
def wsX8_road : List Cond := .code yX8_road cX8_road 3 (some .int) :: ((wsX8_road_r1 ++ wsX8_road_r2) ++ wsX80 ++ wsX10)
def wsX8_anew : List Cond := .code yX8_anew cX8_anew 1 (some .int) :: ([.fieldLink RX8 12 "RoadDepots" "land" "LRoadDepots$Land;", .methodLink RX8 97 yX1_empty, .instanceMethod yX1_empty, .selects RX1 yX1_empty yX1_empty, .initialized RX1, .code yX1_empty cX1_empty 2 (some .int), .fieldLink RX1 29 "RoadDepots$Land" "count" "I", .fieldLink RX1 33 "RoadDepots$Land" "openCount" "I", .fieldLink RX1 9 "RoadDepots$Land" "roots" "[I", .fieldLink RX1 15 "RoadDepots$Land" "lengths" "[I", .fieldLink RX1 18 "RoadDepots$Land" "open" "[Z"] ++ wsX80 ++ wsX10)
def wsX8_draw_r1 : List Cond := [Cond.constant RX8 100 (999999), Cond.fieldLink RX8 12 "RoadDepots" "land" "LRoadDepots$Land;", Cond.methodLink RX8 86 yX8_isUpTo, Cond.static yX8_isUpTo, Cond.initialized RX8, Cond.code yX8_isUpTo cX8_isUpTo 2 (some .boolean), Cond.methodLink RX8 71 yX8_refuseBad, Cond.instanceMethod yX8_refuseBad, Cond.selects RX8 yX8_refuseBad yX8_refuseBad, Cond.code yX8_refuseBad cX8_refuseBad 1 (some .int), Cond.fieldLink RX8 200 "RoadDepots" "badCalls" "I", Cond.methodLink RX8 101 yX1_sow, Cond.instanceMethod yX1_sow, Cond.selects RX1 yX1_sow yX1_sow, Cond.initialized RX1, Cond.code yX1_sow cX1_sow 7 (some .int), Cond.fieldLink RX1 29 "RoadDepots$Land" "count" "I", Cond.constantLong RX1 44 (1103515245), Cond.constantLong RX1 46 (12345), Cond.constantLong RX1 48 (2147483648), Cond.constantLong RX1 50 (65536), Cond.constantLong RX1 52 (1024), Cond.constantLong RX1 54 (99), Cond.constantLong RX1 60 (32768)]
def wsX8_draw_r2 : List Cond := [Cond.constantLong RX1 62 (4), Cond.fieldLink RX1 33 "RoadDepots$Land" "openCount" "I", Cond.methodLink RX1 25 yX1_empty, Cond.instanceMethod yX1_empty, Cond.selects RX1 yX1_empty yX1_empty, Cond.code yX1_empty cX1_empty 2 (some .int), Cond.fieldLink RX1 9 "RoadDepots$Land" "roots" "[I", Cond.fieldLink RX1 15 "RoadDepots$Land" "lengths" "[I", Cond.fieldLink RX1 18 "RoadDepots$Land" "open" "[Z", Cond.methodLink RX1 56 yX1_settle, Cond.instanceMethod yX1_settle, Cond.selects RX1 yX1_settle yX1_settle, Cond.code yX1_settle cX1_settle 4 (some .int), Cond.methodLink RX1 36 yX1_has, Cond.instanceMethod yX1_has, Cond.selects RX1 yX1_has yX1_has, Cond.code yX1_has cX1_has 2 (some .boolean), Cond.methodLink RX1 40 yX1_measure, Cond.instanceMethod yX1_measure, Cond.selects RX1 yX1_measure yX1_measure, Cond.code yX1_measure cX1_measure 5 none, Cond.fieldLink RX1 22 "RoadDepots$Land" "gaps" "[I", Cond.methodLink RX1 72 yX1_gap, Cond.instanceMethod yX1_gap]
def wsX8_draw_r3 : List Cond := [Cond.selects RX1 yX1_gap yX1_gap, Cond.code yX1_gap cX1_gap 3 (some .int), Cond.methodLink RX1 64 yX1_setDepot, Cond.instanceMethod yX1_setDepot, Cond.selects RX1 yX1_setDepot yX1_setDepot, Cond.code yX1_setDepot cX1_setDepot 3 (some .int)]
def wsX8_draw : List Cond := .code yX8_draw cX8_draw 3 (some .int) :: ((wsX8_draw_r1 ++ (wsX8_draw_r2 ++ wsX8_draw_r3)) ++ wsX80 ++ wsX10)
def wsX8_of_r1 : List Cond := [Cond.fieldLink RX8 12 "RoadDepots" "land" "LRoadDepots$Land;", Cond.methodLink RX8 64 yX1_has, Cond.instanceMethod yX1_has, Cond.selects RX1 yX1_has yX1_has, Cond.initialized RX1, Cond.code yX1_has cX1_has 2 (some .boolean), Cond.fieldLink RX1 29 "RoadDepots$Land" "count" "I", Cond.methodLink RX8 86 yX8_isUpTo, Cond.static yX8_isUpTo, Cond.initialized RX8, Cond.code yX8_isUpTo cX8_isUpTo 2 (some .boolean), Cond.methodLink RX8 71 yX8_refuseBad, Cond.instanceMethod yX8_refuseBad, Cond.selects RX8 yX8_refuseBad yX8_refuseBad, Cond.code yX8_refuseBad cX8_refuseBad 1 (some .int), Cond.fieldLink RX8 200 "RoadDepots" "badCalls" "I", Cond.methodLink RX8 104 yX1_aspect, Cond.instanceMethod yX1_aspect, Cond.selects RX1 yX1_aspect yX1_aspect, Cond.code yX1_aspect cX1_aspect 3 (some .int), Cond.fieldLink RX1 9 "RoadDepots$Land" "roots" "[I", Cond.fieldLink RX1 15 "RoadDepots$Land" "lengths" "[I", Cond.fieldLink RX1 18 "RoadDepots$Land" "open" "[Z", Cond.methodLink RX1 68 yX1_countRoads]
def wsX8_of_r2 : List Cond := [Cond.instanceMethod yX1_countRoads, Cond.selects RX1 yX1_countRoads yX1_countRoads, Cond.code yX1_countRoads cX1_countRoads 4 (some .int)]
def wsX8_of : List Cond := .code yX8_of cX8_of 3 (some .int) :: ((wsX8_of_r1 ++ wsX8_of_r2) ++ wsX80 ++ wsX10)
def wsX8_far : List Cond := .code yX8_far cX8_far 3 (some .int) :: ([.fieldLink RX8 12 "RoadDepots" "land" "LRoadDepots$Land;", .methodLink RX8 64 yX1_has, .instanceMethod yX1_has, .selects RX1 yX1_has yX1_has, .initialized RX1, .code yX1_has cX1_has 2 (some .boolean), .fieldLink RX1 29 "RoadDepots$Land" "count" "I", .methodLink RX8 71 yX8_refuseBad, .instanceMethod yX8_refuseBad, .selects RX8 yX8_refuseBad yX8_refuseBad, .initialized RX8, .code yX8_refuseBad cX8_refuseBad 1 (some .int), .fieldLink RX8 200 "RoadDepots" "badCalls" "I", .methodLink RX8 107 yX1_gap, .instanceMethod yX1_gap, .selects RX1 yX1_gap yX1_gap, .code yX1_gap cX1_gap 3 (some .int), .fieldLink RX1 22 "RoadDepots$Land" "gaps" "[I"] ++ wsX80 ++ wsX10)
def wsX8_refuseBadPlace : List Cond := .code yX8_refuseBadPlace cX8_refuseBadPlace 1 (some .int) :: ([.fieldLink RX8 200 "RoadDepots" "badCalls" "I"] ++ wsX80)
def wsX8_way_r1 : List Cond := [Cond.fieldLink RX8 12 "RoadDepots" "land" "LRoadDepots$Land;", Cond.fieldLink RX8 21 "RoadDepots" "ways" "LRoadDepots$Ways;", Cond.fieldLink RX8 117 "RoadDepots$Ways" "steps" "I", Cond.fieldLink RX8 120 "RoadDepots$Ways" "trail" "[I", Cond.methodLink RX8 64 yX1_has, Cond.instanceMethod yX1_has, Cond.selects RX1 yX1_has yX1_has, Cond.initialized RX1, Cond.code yX1_has cX1_has 2 (some .boolean), Cond.fieldLink RX1 29 "RoadDepots$Land" "count" "I", Cond.methodLink RX8 110 yX8_refuseBadPlace, Cond.instanceMethod yX8_refuseBadPlace, Cond.selects RX8 yX8_refuseBadPlace yX8_refuseBadPlace, Cond.initialized RX8, Cond.code yX8_refuseBadPlace cX8_refuseBadPlace 1 (some .int), Cond.fieldLink RX8 200 "RoadDepots" "badCalls" "I", Cond.methodLink RX8 113 yX6_walk, Cond.instanceMethod yX6_walk, Cond.selects RX6 yX6_walk yX6_walk, Cond.initialized RX6, Cond.code yX6_walk cX6_walk 8 none, Cond.fieldLink RX6 9 "RoadDepots$Ways" "trail" "[I", Cond.fieldLink RX6 18 "RoadDepots$Ways" "land" "LRoadDepots$Land;", Cond.fieldLink RX6 22 "RoadDepots$Land" "roots" "[I"]
def wsX8_way_r2 : List Cond := [Cond.fieldLink RX6 27 "RoadDepots$Ways" "steps" "I"]
def wsX8_way : List Cond := .code yX8_way cX8_way 4 (some .int) :: ((wsX8_way_r1 ++ wsX8_way_r2) ++ wsX80 ++ wsX60 ++ wsX10)
def wsX8_longest : List Cond := .code yX8_longest cX8_longest 2 (some .int) :: ([.fieldLink RX8 21 "RoadDepots" "ways" "LRoadDepots$Ways;", .methodLink RX8 86 yX8_isUpTo, .static yX8_isUpTo, .initialized RX8, .code yX8_isUpTo cX8_isUpTo 2 (some .boolean), .methodLink RX8 71 yX8_refuseBad, .instanceMethod yX8_refuseBad, .selects RX8 yX8_refuseBad yX8_refuseBad, .code yX8_refuseBad cX8_refuseBad 1 (some .int), .fieldLink RX8 200 "RoadDepots" "badCalls" "I", .methodLink RX8 124 yX6_span, .instanceMethod yX6_span, .selects RX6 yX6_span yX6_span, .initialized RX6, .code yX6_span cX6_span 7 (some .int), .fieldLink RX6 18 "RoadDepots$Ways" "land" "LRoadDepots$Land;", .fieldLink RX6 31 "RoadDepots$Land" "count" "I", .methodLink RX6 34 yX1_gap, .instanceMethod yX1_gap, .selects RX1 yX1_gap yX1_gap, .initialized RX1, .code yX1_gap cX1_gap 3 (some .int), .fieldLink RX1 22 "RoadDepots$Land" "gaps" "[I"] ++ wsX80 ++ wsX60 ++ wsX10)
def wsX8_middle_r1 : List Cond := [Cond.fieldLink RX8 21 "RoadDepots" "ways" "LRoadDepots$Ways;", Cond.methodLink RX8 86 yX8_isUpTo, Cond.static yX8_isUpTo, Cond.initialized RX8, Cond.code yX8_isUpTo cX8_isUpTo 2 (some .boolean), Cond.methodLink RX8 71 yX8_refuseBad, Cond.instanceMethod yX8_refuseBad, Cond.selects RX8 yX8_refuseBad yX8_refuseBad, Cond.code yX8_refuseBad cX8_refuseBad 1 (some .int), Cond.fieldLink RX8 200 "RoadDepots" "badCalls" "I", Cond.methodLink RX8 128 yX6_heart, Cond.instanceMethod yX6_heart, Cond.selects RX6 yX6_heart yX6_heart, Cond.initialized RX6, Cond.code yX6_heart cX6_heart 6 (some .int), Cond.fieldLink RX6 18 "RoadDepots$Ways" "land" "LRoadDepots$Land;", Cond.fieldLink RX6 31 "RoadDepots$Land" "count" "I", Cond.methodLink RX6 38 yX6_weigh, Cond.instanceMethod yX6_weigh, Cond.selects RX6 yX6_weigh yX6_weigh, Cond.code yX6_weigh cX6_weigh 2 none, Cond.fieldLink RX6 15 "RoadDepots$Ways" "weights" "[I", Cond.fieldLink RX6 22 "RoadDepots$Land" "roots" "[I", Cond.methodLink RX6 41 yX6_burden]
def wsX8_middle_r2 : List Cond := [Cond.instanceMethod yX6_burden, Cond.selects RX6 yX6_burden yX6_burden, Cond.code yX6_burden cX6_burden 3 (some .int), Cond.methodLink RX6 44 yX6_farthest, Cond.instanceMethod yX6_farthest, Cond.selects RX6 yX6_farthest yX6_farthest, Cond.code yX6_farthest cX6_farthest 4 (some .int), Cond.methodLink RX6 54 Lib.Math.max.name, Cond.static Lib.Math.max.name, Cond.initialized "java/lang/Math", Cond.code Lib.Math.max.name Lib.Math.max.code 2 (some .int), Cond.methodLink RX6 34 yX1_gap, Cond.instanceMethod yX1_gap, Cond.selects RX1 yX1_gap yX1_gap, Cond.initialized RX1, Cond.code yX1_gap cX1_gap 3 (some .int), Cond.fieldLink RX1 22 "RoadDepots$Land" "gaps" "[I", Cond.methodLink RX6 48 yX6_distanceOfAll, Cond.instanceMethod yX6_distanceOfAll, Cond.selects RX6 yX6_distanceOfAll yX6_distanceOfAll, Cond.code yX6_distanceOfAll cX6_distanceOfAll 4 (some .int), Cond.methodLink RX6 51 yX6_greatestRest, Cond.instanceMethod yX6_greatestRest, Cond.selects RX6 yX6_greatestRest yX6_greatestRest]
def wsX8_middle_r3 : List Cond := [Cond.code yX6_greatestRest cX6_greatestRest 4 (some .int)]
def wsX8_middle : List Cond := .code yX8_middle cX8_middle 2 (some .int) :: ((wsX8_middle_r1 ++ (wsX8_middle_r2 ++ wsX8_middle_r3)) ++ wsX80 ++ wsX60 ++ wsX10)
def wsX8_whichOrFar : List Cond := .code yX8_whichOrFar cX8_whichOrFar 4 (some .int) :: ([.fieldLink RX8 12 "RoadDepots" "land" "LRoadDepots$Land;", .methodLink RX8 107 yX1_gap, .instanceMethod yX1_gap, .selects RX1 yX1_gap yX1_gap, .initialized RX1, .code yX1_gap cX1_gap 3 (some .int), .fieldLink RX1 22 "RoadDepots$Land" "gaps" "[I"] ++ wsX80 ++ wsX10)
def wsX8_nearest_r1 : List Cond := [Cond.fieldLink RX8 12 "RoadDepots" "land" "LRoadDepots$Land;", Cond.fieldLink RX8 28 "RoadDepots" "depots" "LRoadDepots$Depots;", Cond.methodLink RX8 64 yX1_has, Cond.instanceMethod yX1_has, Cond.selects RX1 yX1_has yX1_has, Cond.initialized RX1, Cond.code yX1_has cX1_has 2 (some .boolean), Cond.fieldLink RX1 29 "RoadDepots$Land" "count" "I", Cond.methodLink RX8 86 yX8_isUpTo, Cond.static yX8_isUpTo, Cond.initialized RX8, Cond.code yX8_isUpTo cX8_isUpTo 2 (some .boolean), Cond.methodLink RX8 71 yX8_refuseBad, Cond.instanceMethod yX8_refuseBad, Cond.selects RX8 yX8_refuseBad yX8_refuseBad, Cond.code yX8_refuseBad cX8_refuseBad 1 (some .int), Cond.fieldLink RX8 200 "RoadDepots" "badCalls" "I", Cond.methodLink RX8 131 yX0_closest, Cond.instanceMethod yX0_closest, Cond.selects RX0 yX0_closest yX0_closest, Cond.initialized RX0, Cond.code yX0_closest cX0_closest 5 (some .int), Cond.constant RX0 19 (1000000), Cond.fieldLink RX0 15 "RoadDepots$Depots" "land" "LRoadDepots$Land;"]
def wsX8_nearest_r2 : List Cond := [Cond.fieldLink RX0 20 "RoadDepots$Land" "count" "I", Cond.fieldLink RX0 26 "RoadDepots$Land" "open" "[Z", Cond.methodLink RX0 30 yX1_gap, Cond.instanceMethod yX1_gap, Cond.selects RX1 yX1_gap yX1_gap, Cond.code yX1_gap cX1_gap 3 (some .int), Cond.fieldLink RX1 22 "RoadDepots$Land" "gaps" "[I", Cond.methodLink RX8 134 yX8_whichOrFar, Cond.instanceMethod yX8_whichOrFar, Cond.selects RX8 yX8_whichOrFar yX8_whichOrFar, Cond.code yX8_whichOrFar cX8_whichOrFar 4 (some .int), Cond.methodLink RX8 107 yX1_gap]
def wsX8_nearest : List Cond := .code yX8_nearest cX8_nearest 3 (some .int) :: ((wsX8_nearest_r1 ++ wsX8_nearest_r2) ++ wsX80 ++ wsX10 ++ wsX00)
def wsX8_turn_r1 : List Cond := [Cond.fieldLink RX8 12 "RoadDepots" "land" "LRoadDepots$Land;", Cond.fieldLink RX8 28 "RoadDepots" "depots" "LRoadDepots$Depots;", Cond.methodLink RX8 64 yX1_has, Cond.instanceMethod yX1_has, Cond.selects RX1 yX1_has yX1_has, Cond.initialized RX1, Cond.code yX1_has cX1_has 2 (some .boolean), Cond.fieldLink RX1 29 "RoadDepots$Land" "count" "I", Cond.methodLink RX8 86 yX8_isUpTo, Cond.static yX8_isUpTo, Cond.initialized RX8, Cond.code yX8_isUpTo cX8_isUpTo 2 (some .boolean), Cond.methodLink RX8 71 yX8_refuseBad, Cond.instanceMethod yX8_refuseBad, Cond.selects RX8 yX8_refuseBad yX8_refuseBad, Cond.code yX8_refuseBad cX8_refuseBad 1 (some .int), Cond.fieldLink RX8 200 "RoadDepots" "badCalls" "I", Cond.methodLink RX8 138 yX0_ranked, Cond.instanceMethod yX0_ranked, Cond.selects RX0 yX0_ranked yX0_ranked, Cond.initialized RX0, Cond.code yX0_ranked cX0_ranked 4 (some .int), Cond.fieldLink RX0 15 "RoadDepots$Depots" "land" "LRoadDepots$Land;", Cond.fieldLink RX0 20 "RoadDepots$Land" "count" "I"]
def wsX8_turn_r2 : List Cond := [Cond.fieldLink RX0 26 "RoadDepots$Land" "open" "[Z", Cond.methodLink RX0 34 yX0_countBefore, Cond.instanceMethod yX0_countBefore, Cond.selects RX0 yX0_countBefore yX0_countBefore, Cond.code yX0_countBefore cX0_countBefore 7 (some .int), Cond.methodLink RX0 30 yX1_gap, Cond.instanceMethod yX1_gap, Cond.selects RX1 yX1_gap yX1_gap, Cond.code yX1_gap cX1_gap 3 (some .int), Cond.fieldLink RX1 22 "RoadDepots$Land" "gaps" "[I", Cond.methodLink RX8 134 yX8_whichOrFar, Cond.instanceMethod yX8_whichOrFar, Cond.selects RX8 yX8_whichOrFar yX8_whichOrFar, Cond.code yX8_whichOrFar cX8_whichOrFar 4 (some .int), Cond.methodLink RX8 107 yX1_gap]
def wsX8_turn : List Cond := .code yX8_turn cX8_turn 4 (some .int) :: ((wsX8_turn_r1 ++ wsX8_turn_r2) ++ wsX80 ++ wsX10 ++ wsX00)
def wsX8_within_r1 : List Cond := [Cond.fieldLink RX8 12 "RoadDepots" "land" "LRoadDepots$Land;", Cond.fieldLink RX8 28 "RoadDepots" "depots" "LRoadDepots$Depots;", Cond.methodLink RX8 64 yX1_has, Cond.instanceMethod yX1_has, Cond.selects RX1 yX1_has yX1_has, Cond.initialized RX1, Cond.code yX1_has cX1_has 2 (some .boolean), Cond.fieldLink RX1 29 "RoadDepots$Land" "count" "I", Cond.methodLink RX8 86 yX8_isUpTo, Cond.static yX8_isUpTo, Cond.initialized RX8, Cond.code yX8_isUpTo cX8_isUpTo 2 (some .boolean), Cond.methodLink RX8 71 yX8_refuseBad, Cond.instanceMethod yX8_refuseBad, Cond.selects RX8 yX8_refuseBad yX8_refuseBad, Cond.code yX8_refuseBad cX8_refuseBad 1 (some .int), Cond.fieldLink RX8 200 "RoadDepots" "badCalls" "I", Cond.methodLink RX8 141 yX0_countWithin, Cond.instanceMethod yX0_countWithin, Cond.selects RX0 yX0_countWithin yX0_countWithin, Cond.initialized RX0, Cond.code yX0_countWithin cX0_countWithin 5 (some .int), Cond.fieldLink RX0 15 "RoadDepots$Depots" "land" "LRoadDepots$Land;", Cond.fieldLink RX0 20 "RoadDepots$Land" "count" "I"]
def wsX8_within_r2 : List Cond := [Cond.fieldLink RX0 26 "RoadDepots$Land" "open" "[Z", Cond.methodLink RX0 30 yX1_gap, Cond.instanceMethod yX1_gap, Cond.selects RX1 yX1_gap yX1_gap, Cond.code yX1_gap cX1_gap 3 (some .int), Cond.fieldLink RX1 22 "RoadDepots$Land" "gaps" "[I"]
def wsX8_within : List Cond := .code yX8_within cX8_within 3 (some .int) :: ((wsX8_within_r1 ++ wsX8_within_r2) ++ wsX80 ++ wsX10 ++ wsX00)
def wsX8_sum_r1 : List Cond := [Cond.fieldLink RX8 12 "RoadDepots" "land" "LRoadDepots$Land;", Cond.fieldLink RX8 28 "RoadDepots" "depots" "LRoadDepots$Depots;", Cond.methodLink RX8 64 yX1_has, Cond.instanceMethod yX1_has, Cond.selects RX1 yX1_has yX1_has, Cond.initialized RX1, Cond.code yX1_has cX1_has 2 (some .boolean), Cond.fieldLink RX1 29 "RoadDepots$Land" "count" "I", Cond.methodLink RX8 71 yX8_refuseBad, Cond.instanceMethod yX8_refuseBad, Cond.selects RX8 yX8_refuseBad yX8_refuseBad, Cond.initialized RX8, Cond.code yX8_refuseBad cX8_refuseBad 1 (some .int), Cond.fieldLink RX8 200 "RoadDepots" "badCalls" "I", Cond.methodLink RX8 144 yX0_total, Cond.instanceMethod yX0_total, Cond.selects RX0 yX0_total yX0_total, Cond.initialized RX0, Cond.code yX0_total cX0_total 4 (some .int), Cond.fieldLink RX0 15 "RoadDepots$Depots" "land" "LRoadDepots$Land;", Cond.fieldLink RX0 20 "RoadDepots$Land" "count" "I", Cond.fieldLink RX0 26 "RoadDepots$Land" "open" "[Z", Cond.methodLink RX0 30 yX1_gap, Cond.instanceMethod yX1_gap]
def wsX8_sum_r2 : List Cond := [Cond.selects RX1 yX1_gap yX1_gap, Cond.code yX1_gap cX1_gap 3 (some .int), Cond.fieldLink RX1 22 "RoadDepots$Land" "gaps" "[I"]
def wsX8_sum : List Cond := .code yX8_sum cX8_sum 2 (some .int) :: ((wsX8_sum_r1 ++ wsX8_sum_r2) ++ wsX80 ++ wsX10 ++ wsX00)
def wsX8_left_r1 : List Cond := [Cond.fieldLink RX8 28 "RoadDepots" "depots" "LRoadDepots$Depots;", Cond.methodLink RX8 86 yX8_isUpTo, Cond.static yX8_isUpTo, Cond.initialized RX8, Cond.code yX8_isUpTo cX8_isUpTo 2 (some .boolean), Cond.methodLink RX8 71 yX8_refuseBad, Cond.instanceMethod yX8_refuseBad, Cond.selects RX8 yX8_refuseBad yX8_refuseBad, Cond.code yX8_refuseBad cX8_refuseBad 1 (some .int), Cond.fieldLink RX8 200 "RoadDepots" "badCalls" "I", Cond.methodLink RX8 147 yX0_remotest, Cond.instanceMethod yX0_remotest, Cond.selects RX0 yX0_remotest yX0_remotest, Cond.initialized RX0, Cond.code yX0_remotest cX0_remotest 5 (some .int), Cond.fieldLink RX0 15 "RoadDepots$Depots" "land" "LRoadDepots$Land;", Cond.fieldLink RX0 37 "RoadDepots$Land" "openCount" "I", Cond.fieldLink RX0 9 "RoadDepots$Depots" "reaches" "[I", Cond.fieldLink RX0 20 "RoadDepots$Land" "count" "I", Cond.methodLink RX0 40 yX0_findReaches, Cond.instanceMethod yX0_findReaches, Cond.selects RX0 yX0_findReaches yX0_findReaches, Cond.code yX0_findReaches cX0_findReaches 3 none, Cond.constant RX0 19 (1000000)]
def wsX8_left_r2 : List Cond := [Cond.methodLink RX0 47 yX0_closest, Cond.instanceMethod yX0_closest, Cond.selects RX0 yX0_closest yX0_closest, Cond.code yX0_closest cX0_closest 5 (some .int), Cond.fieldLink RX0 26 "RoadDepots$Land" "open" "[Z", Cond.methodLink RX0 30 yX1_gap, Cond.instanceMethod yX1_gap, Cond.selects RX1 yX1_gap yX1_gap, Cond.initialized RX1, Cond.code yX1_gap cX1_gap 3 (some .int), Cond.fieldLink RX1 22 "RoadDepots$Land" "gaps" "[I"]
def wsX8_left : List Cond := .code yX8_left cX8_left 2 (some .int) :: ((wsX8_left_r1 ++ wsX8_left_r2) ++ wsX80 ++ wsX00 ++ wsX10)
def wsX8_more_r1 : List Cond := [Cond.fieldLink RX8 28 "RoadDepots" "depots" "LRoadDepots$Depots;", Cond.methodLink RX8 86 yX8_isUpTo, Cond.static yX8_isUpTo, Cond.initialized RX8, Cond.code yX8_isUpTo cX8_isUpTo 2 (some .boolean), Cond.methodLink RX8 71 yX8_refuseBad, Cond.instanceMethod yX8_refuseBad, Cond.selects RX8 yX8_refuseBad yX8_refuseBad, Cond.code yX8_refuseBad cX8_refuseBad 1 (some .int), Cond.fieldLink RX8 200 "RoadDepots" "badCalls" "I", Cond.methodLink RX8 150 yX0_bestNew, Cond.instanceMethod yX0_bestNew, Cond.selects RX0 yX0_bestNew yX0_bestNew, Cond.initialized RX0, Cond.code yX0_bestNew cX0_bestNew 6 (some .int), Cond.constant RX0 19 (1000000), Cond.fieldLink RX0 15 "RoadDepots$Depots" "land" "LRoadDepots$Land;", Cond.fieldLink RX0 20 "RoadDepots$Land" "count" "I", Cond.fieldLink RX0 26 "RoadDepots$Land" "open" "[Z", Cond.methodLink RX0 40 yX0_findReaches, Cond.instanceMethod yX0_findReaches, Cond.selects RX0 yX0_findReaches yX0_findReaches, Cond.code yX0_findReaches cX0_findReaches 3 none, Cond.fieldLink RX0 9 "RoadDepots$Depots" "reaches" "[I"]
def wsX8_more_r2 : List Cond := [Cond.methodLink RX0 47 yX0_closest, Cond.instanceMethod yX0_closest, Cond.selects RX0 yX0_closest yX0_closest, Cond.code yX0_closest cX0_closest 5 (some .int), Cond.methodLink RX0 30 yX1_gap, Cond.instanceMethod yX1_gap, Cond.selects RX1 yX1_gap yX1_gap, Cond.initialized RX1, Cond.code yX1_gap cX1_gap 3 (some .int), Cond.fieldLink RX1 22 "RoadDepots$Land" "gaps" "[I", Cond.methodLink RX0 43 yX0_leftWith, Cond.instanceMethod yX0_leftWith, Cond.selects RX0 yX0_leftWith yX0_leftWith, Cond.code yX0_leftWith cX0_leftWith 4 (some .int), Cond.methodLink RX0 50 Lib.Math.min.name, Cond.static Lib.Math.min.name, Cond.initialized "java/lang/Math", Cond.code Lib.Math.min.name Lib.Math.min.code 2 (some .int), Cond.methodLink RX0 55 Lib.Math.max.name, Cond.static Lib.Math.max.name, Cond.code Lib.Math.max.name Lib.Math.max.code 2 (some .int)]
def wsX8_more : List Cond := .code yX8_more cX8_more 2 (some .int) :: ((wsX8_more_r1 ++ wsX8_more_r2) ++ wsX80 ++ wsX00 ++ wsX10)
def wsX8_serves_r1 : List Cond := [Cond.fieldLink RX8 12 "RoadDepots" "land" "LRoadDepots$Land;", Cond.fieldLink RX8 28 "RoadDepots" "depots" "LRoadDepots$Depots;", Cond.methodLink RX8 64 yX1_has, Cond.instanceMethod yX1_has, Cond.selects RX1 yX1_has yX1_has, Cond.initialized RX1, Cond.code yX1_has cX1_has 2 (some .boolean), Cond.fieldLink RX1 29 "RoadDepots$Land" "count" "I", Cond.methodLink RX8 71 yX8_refuseBad, Cond.instanceMethod yX8_refuseBad, Cond.selects RX8 yX8_refuseBad yX8_refuseBad, Cond.initialized RX8, Cond.code yX8_refuseBad cX8_refuseBad 1 (some .int), Cond.fieldLink RX8 200 "RoadDepots" "badCalls" "I", Cond.methodLink RX8 153 yX0_countServed, Cond.instanceMethod yX0_countServed, Cond.selects RX0 yX0_countServed yX0_countServed, Cond.initialized RX0, Cond.code yX0_countServed cX0_countServed 4 (some .int), Cond.fieldLink RX0 15 "RoadDepots$Depots" "land" "LRoadDepots$Land;", Cond.fieldLink RX0 20 "RoadDepots$Land" "count" "I", Cond.methodLink RX0 34 yX0_countBefore, Cond.instanceMethod yX0_countBefore, Cond.selects RX0 yX0_countBefore yX0_countBefore]
def wsX8_serves_r2 : List Cond := [Cond.code yX0_countBefore cX0_countBefore 7 (some .int), Cond.fieldLink RX0 26 "RoadDepots$Land" "open" "[Z", Cond.methodLink RX0 30 yX1_gap, Cond.instanceMethod yX1_gap, Cond.selects RX1 yX1_gap yX1_gap, Cond.code yX1_gap cX1_gap 3 (some .int), Cond.fieldLink RX1 22 "RoadDepots$Land" "gaps" "[I"]
def wsX8_serves : List Cond := .code yX8_serves cX8_serves 2 (some .int) :: ((wsX8_serves_r1 ++ wsX8_serves_r2) ++ wsX80 ++ wsX10 ++ wsX00)
def wsX8_pair_r1 : List Cond := [Cond.fieldLink RX8 28 "RoadDepots" "depots" "LRoadDepots$Depots;", Cond.methodLink RX8 86 yX8_isUpTo, Cond.static yX8_isUpTo, Cond.initialized RX8, Cond.code yX8_isUpTo cX8_isUpTo 2 (some .boolean), Cond.methodLink RX8 71 yX8_refuseBad, Cond.instanceMethod yX8_refuseBad, Cond.selects RX8 yX8_refuseBad yX8_refuseBad, Cond.code yX8_refuseBad cX8_refuseBad 1 (some .int), Cond.fieldLink RX8 200 "RoadDepots" "badCalls" "I", Cond.methodLink RX8 156 yX0_closestTwo, Cond.instanceMethod yX0_closestTwo, Cond.selects RX0 yX0_closestTwo yX0_closestTwo, Cond.initialized RX0, Cond.code yX0_closestTwo cX0_closestTwo 7 (some .int), Cond.constant RX0 19 (1000000), Cond.fieldLink RX0 15 "RoadDepots$Depots" "land" "LRoadDepots$Land;", Cond.fieldLink RX0 20 "RoadDepots$Land" "count" "I", Cond.fieldLink RX0 26 "RoadDepots$Land" "open" "[Z", Cond.methodLink RX0 30 yX1_gap, Cond.instanceMethod yX1_gap, Cond.selects RX1 yX1_gap yX1_gap, Cond.initialized RX1, Cond.code yX1_gap cX1_gap 3 (some .int)]
def wsX8_pair_r2 : List Cond := [Cond.fieldLink RX1 22 "RoadDepots$Land" "gaps" "[I"]
def wsX8_pair : List Cond := .code yX8_pair cX8_pair 2 (some .int) :: ((wsX8_pair_r1 ++ wsX8_pair_r2) ++ wsX80 ++ wsX00 ++ wsX10)
def wsX8_type : List Cond := .code yX8_type cX8_type 2 (some .int) :: ([.fieldLink RX8 35 "RoadDepots" "text" "LRoadDepots$Text;", .fieldLink RX8 159 "RoadDepots$Text" "size" "I", .methodLink RX8 86 yX8_isUpTo, .static yX8_isUpTo, .initialized RX8, .code yX8_isUpTo cX8_isUpTo 2 (some .boolean), .methodLink RX8 71 yX8_refuseBad, .instanceMethod yX8_refuseBad, .selects RX8 yX8_refuseBad yX8_refuseBad, .code yX8_refuseBad cX8_refuseBad 1 (some .int), .fieldLink RX8 200 "RoadDepots" "badCalls" "I", .methodLink RX8 79 yX8_refuseFull, .instanceMethod yX8_refuseFull, .selects RX8 yX8_refuseFull yX8_refuseFull, .code yX8_refuseFull cX8_refuseFull 1 (some .int), .fieldLink RX8 203 "RoadDepots" "fullCalls" "I", .methodLink RX8 162 yX5_put, .instanceMethod yX5_put, .selects RX5 yX5_put yX5_put, .initialized RX5, .code yX5_put cX5_put 2 (some .int), .fieldLink RX5 15 "RoadDepots$Text" "size" "I", .fieldLink RX5 9 "RoadDepots$Text" "bytes" "[B"] ++ wsX80 ++ wsX50)
def wsX8_clear : List Cond := .code yX8_clear cX8_clear 1 (some .int) :: ([.fieldLink RX8 35 "RoadDepots" "text" "LRoadDepots$Text;", .methodLink RX8 165 yX5_empty, .instanceMethod yX5_empty, .selects RX5 yX5_empty yX5_empty, .initialized RX5, .code yX5_empty cX5_empty 2 (some .int), .fieldLink RX5 15 "RoadDepots$Text" "size" "I"] ++ wsX80 ++ wsX50)
def wsX8_says_r1 : List Cond := [Cond.fieldLink RX8 44 "RoadDepots" "reader" "LRoadDepots$Reader;", Cond.fieldLink RX8 12 "RoadDepots" "land" "LRoadDepots$Land;", Cond.fieldLink RX8 75 "RoadDepots$Land" "count" "I", Cond.fieldLink RX8 51 "RoadDepots" "line" "LRoadDepots$Line;", Cond.fieldLink RX8 171 "RoadDepots$Reader" "count" "I", Cond.fieldLink RX8 60 "RoadDepots" "teller" "LRoadDepots$Teller;", Cond.fieldLink RX8 175 "RoadDepots$Reader" "words" "[I", Cond.fieldLink RX8 178 "RoadDepots$Reader" "firsts" "[I", Cond.fieldLink RX8 181 "RoadDepots$Reader" "seconds" "[I", Cond.methodLink RX8 166 yX3_read, Cond.instanceMethod yX3_read, Cond.selects RX3 yX3_read yX3_read, Cond.initialized RX3, Cond.code yX3_read cX3_read 3 (some .int), Cond.fieldLink RX3 25 "RoadDepots$Reader" "count" "I", Cond.fieldLink RX3 29 "RoadDepots$Reader" "place" "I", Cond.fieldLink RX3 32 "RoadDepots$Reader" "fault" "I", Cond.fieldLink RX3 35 "RoadDepots$Reader" "villages" "I", Cond.fieldLink RX3 21 "RoadDepots$Reader" "text" "LRoadDepots$Text;", Cond.fieldLink RX3 38 "RoadDepots$Text" "size" "I", Cond.methodLink RX3 43 yX3_readSentence, Cond.instanceMethod yX3_readSentence, Cond.selects RX3 yX3_readSentence yX3_readSentence, Cond.code yX3_readSentence cX3_readSentence 4 none]
def wsX8_says_r2 : List Cond := [Cond.methodLink RX3 49 yX3_readWord, Cond.instanceMethod yX3_readWord, Cond.selects RX3 yX3_readWord yX3_readWord, Cond.code yX3_readWord cX3_readWord 3 (some .int), Cond.methodLink RX3 46 yX3_skipBlanks, Cond.instanceMethod yX3_skipBlanks, Cond.selects RX3 yX3_skipBlanks yX3_skipBlanks, Cond.code yX3_skipBlanks cX3_skipBlanks 1 none, Cond.methodLink RX3 83 yX5_byteAt, Cond.instanceMethod yX5_byteAt, Cond.selects RX5 yX5_byteAt yX5_byteAt, Cond.initialized RX5, Cond.code yX5_byteAt cX5_byteAt 2 (some .int), Cond.fieldLink RX5 15 "RoadDepots$Text" "size" "I", Cond.fieldLink RX5 9 "RoadDepots$Text" "bytes" "[B", Cond.methodLink RX3 72 yX5_isLetter, Cond.instanceMethod yX5_isLetter, Cond.selects RX5 yX5_isLetter yX5_isLetter, Cond.code yX5_isLetter cX5_isLetter 3 (some .boolean), Cond.methodLink RX5 19 yX5_byteAt, Cond.methodLink RX3 76 yX7_find, Cond.static yX7_find, Cond.initialized RX7, Cond.code yX7_find cX7_find 4 (some .int)]
def wsX8_says_r3 : List Cond := [Cond.methodLink RX7 11 yX7_spelling, Cond.static yX7_spelling, Cond.code yX7_spelling cX7_spelling 1 (some (.object "java/lang/String")), Cond.methodLink RX7 15 yX5_isWord, Cond.instanceMethod yX5_isWord, Cond.selects RX5 yX5_isWord yX5_isWord, Cond.code yX5_isWord cX5_isWord 5 (some .boolean), Cond.methodLink RX5 23 yJ0_length_8abf5, Cond.instanceMethod yJ0_length_8abf5, Cond.selects RJ0 yJ0_length_8abf5 yJ0_length_8abf5, Cond.initialized RJ0, Cond.code yJ0_length_8abf5 cJ0_length_8abf5 1 (some .int), Cond.fieldLink RJ0 9 "java/lang/String" "value" "[B", Cond.methodLink RJ0 335 yJ0_coder_7d493, Cond.instanceMethod yJ0_coder_7d493, Cond.selects RJ0 yJ0_coder_7d493 yJ0_coder_7d493, Cond.code yJ0_coder_7d493 cJ0_coder_7d493 1 (some .byte), Cond.fieldLink RJ0 38 "java/lang/String" "COMPACT_STRINGS" "Z", Cond.fieldLink RJ0 15 "java/lang/String" "coder" "B", Cond.methodLink RX5 29 yJ0_charAt_5068e, Cond.instanceMethod yJ0_charAt_5068e, Cond.selects RJ0 yJ0_charAt_5068e yJ0_charAt_5068e, Cond.code yJ0_charAt_5068e cJ0_charAt_5068e 2 (some .char), Cond.methodLink RJ0 492 yJ0_isLatin1_aae02]
def wsX8_says_r4 : List Cond := [Cond.instanceMethod yJ0_isLatin1_aae02, Cond.selects RJ0 yJ0_isLatin1_aae02 yJ0_isLatin1_aae02, Cond.code yJ0_isLatin1_aae02 cJ0_isLatin1_aae02 1 (some .boolean), Cond.methodLink RJ0 495 yJ1_charAt_3b067, Cond.static yJ1_charAt_3b067, Cond.initialized RJ1, Cond.code yJ1_charAt_3b067 cJ1_charAt_3b067 2 (some .char), Cond.methodLink RJ1 9 yJ0_checkIndex_df160, Cond.static yJ0_checkIndex_df160, Cond.code yJ0_checkIndex_df160 cJ0_checkIndex_df160 2 none, Cond.fieldLink RJ0 1053 "jdk/internal/util/Preconditions" "SIOOBE_FORMATTER" "Ljava/util/function/BiFunction;", Cond.methodLink RJ0 1059 yJ3_checkIndex_8e157, Cond.static yJ3_checkIndex_8e157, Cond.initialized RJ3, Cond.code yJ3_checkIndex_8e157 cJ3_checkIndex_8e157 3 (some .int), Cond.methodLink RJ0 498 yJ2_charAt_3b067, Cond.static yJ2_charAt_3b067, Cond.initialized RJ2, Cond.code yJ2_charAt_3b067 cJ2_charAt_3b067 2 (some .char), Cond.methodLink RJ2 67 yJ2_checkIndex_2214a, Cond.static yJ2_checkIndex_2214a, Cond.code yJ2_checkIndex_2214a cJ2_checkIndex_2214a 2 none, Cond.methodLink RJ2 48 yJ2_length_9d52b, Cond.static yJ2_length_9d52b]
def wsX8_says_r5 : List Cond := [Cond.code yJ2_length_9d52b cJ2_length_9d52b 1 (some .int), Cond.methodLink RJ2 414 yJ0_checkIndex_df160, Cond.methodLink RJ2 71 yJ2_getChar_3b067, Cond.static yJ2_getChar_3b067, Cond.code yJ2_getChar_3b067 cJ2_getChar_3b067 2 (some .char), Cond.fieldLink RJ2 44 "java/lang/StringUTF16" "$assertionsDisabled" "Z", Cond.fieldLink RJ2 59 "java/lang/StringUTF16" "HI_BYTE_SHIFT" "I", Cond.fieldLink RJ2 63 "java/lang/StringUTF16" "LO_BYTE_SHIFT" "I", Cond.methodLink RX3 53 yX7_firstNeed, Cond.static yX7_firstNeed, Cond.code yX7_firstNeed cX7_firstNeed 1 (some .int), Cond.fieldLink RX7 21 "RoadDepots$Words" "FIRST" "[I", Cond.methodLink RX3 59 yX3_readNumber, Cond.instanceMethod yX3_readNumber, Cond.selects RX3 yX3_readNumber yX3_readNumber, Cond.code yX3_readNumber cX3_readNumber 5 (some .int), Cond.methodLink RX3 80 yX5_isFigure, Cond.instanceMethod yX5_isFigure, Cond.selects RX5 yX5_isFigure yX5_isFigure, Cond.code yX5_isFigure cX5_isFigure 3 (some .boolean), Cond.methodLink RX3 86 yX7_suits, Cond.static yX7_suits, Cond.code yX7_suits cX7_suits 3 (some .boolean), Cond.static yX8_isLength]
def wsX8_says_r6 : List Cond := [Cond.initialized RX8, Cond.code yX8_isLength cX8_isLength 1 (some .boolean), Cond.methodLink RX3 62 yX7_secondNeed, Cond.static yX7_secondNeed, Cond.code yX7_secondNeed cX7_secondNeed 1 (some .int), Cond.fieldLink RX7 25 "RoadDepots$Words" "SECOND" "[I", Cond.methodLink RX3 65 yX3_readEnd, Cond.instanceMethod yX3_readEnd, Cond.selects RX3 yX3_readEnd yX3_readEnd, Cond.code yX3_readEnd cX3_readEnd 1 none, Cond.methodLink RX3 68 yX3_keep, Cond.instanceMethod yX3_keep, Cond.selects RX3 yX3_keep yX3_keep, Cond.code yX3_keep cX3_keep 4 none, Cond.fieldLink RX3 9 "RoadDepots$Reader" "words" "[I", Cond.fieldLink RX3 15 "RoadDepots$Reader" "firsts" "[I", Cond.fieldLink RX3 18 "RoadDepots$Reader" "seconds" "[I", Cond.methodLink RX8 169 yX2_empty, Cond.instanceMethod yX2_empty, Cond.selects RX2 yX2_empty yX2_empty, Cond.initialized RX2, Cond.code yX2_empty cX2_empty 1 none, Cond.fieldLink RX2 15 "RoadDepots$Line" "size" "I", Cond.methodLink RX8 172 yX2_put]
def wsX8_says_r7 : List Cond := [Cond.instanceMethod yX2_put, Cond.selects RX2 yX2_put yX2_put, Cond.code yX2_put cX2_put 2 none, Cond.fieldLink RX2 9 "RoadDepots$Line" "signs" "[B", Cond.methodLink RX8 184 yX4_tell, Cond.instanceMethod yX4_tell, Cond.selects RX4 yX4_tell yX4_tell, Cond.initialized RX4, Cond.code yX4_tell cX4_tell 4 none, Cond.fieldLink RX4 23 "RoadDepots$Teller" "line" "LRoadDepots$Line;", Cond.fieldLink RX4 9 "RoadDepots$Teller" "land" "LRoadDepots$Land;", Cond.fieldLink RX4 19 "RoadDepots$Teller" "depots" "LRoadDepots$Depots;", Cond.methodLink RX4 27 yX1_settle, Cond.instanceMethod yX1_settle, Cond.selects RX1 yX1_settle yX1_settle, Cond.initialized RX1, Cond.code yX1_settle cX1_settle 4 (some .int), Cond.fieldLink RX1 29 "RoadDepots$Land" "count" "I", Cond.fieldLink RX1 9 "RoadDepots$Land" "roots" "[I", Cond.fieldLink RX1 15 "RoadDepots$Land" "lengths" "[I", Cond.fieldLink RX1 18 "RoadDepots$Land" "open" "[Z", Cond.methodLink RX1 36 yX1_has, Cond.instanceMethod yX1_has, Cond.selects RX1 yX1_has yX1_has]
def wsX8_says_r8 : List Cond := [Cond.code yX1_has cX1_has 2 (some .boolean), Cond.methodLink RX1 40 yX1_measure, Cond.instanceMethod yX1_measure, Cond.selects RX1 yX1_measure yX1_measure, Cond.code yX1_measure cX1_measure 5 none, Cond.fieldLink RX1 22 "RoadDepots$Land" "gaps" "[I", Cond.methodLink RX1 72 yX1_gap, Cond.instanceMethod yX1_gap, Cond.selects RX1 yX1_gap yX1_gap, Cond.code yX1_gap cX1_gap 3 (some .int), Cond.methodLink RX4 33 yX2_putNumber, Cond.instanceMethod yX2_putNumber, Cond.selects RX2 yX2_putNumber yX2_putNumber, Cond.code yX2_putNumber cX2_putNumber 4 none, Cond.methodLink RX2 19 yX2_put, Cond.methodLink RX4 39 yX1_setDepot, Cond.instanceMethod yX1_setDepot, Cond.selects RX1 yX1_setDepot yX1_setDepot, Cond.code yX1_setDepot cX1_setDepot 3 (some .int), Cond.fieldLink RX1 33 "RoadDepots$Land" "openCount" "I", Cond.methodLink RX4 43 yX1_setRoad, Cond.instanceMethod yX1_setRoad, Cond.selects RX1 yX1_setRoad yX1_setRoad, Cond.code yX1_setRoad cX1_setRoad 5 (some .int)]
def wsX8_says_r9 : List Cond := [Cond.methodLink RX4 46 yX4_tellNearest, Cond.instanceMethod yX4_tellNearest, Cond.selects RX4 yX4_tellNearest yX4_tellNearest, Cond.code yX4_tellNearest cX4_tellNearest 3 none, Cond.methodLink RX4 68 yX0_closest, Cond.instanceMethod yX0_closest, Cond.selects RX0 yX0_closest yX0_closest, Cond.initialized RX0, Cond.code yX0_closest cX0_closest 5 (some .int), Cond.constant RX0 19 (1000000), Cond.fieldLink RX0 15 "RoadDepots$Depots" "land" "LRoadDepots$Land;", Cond.fieldLink RX0 20 "RoadDepots$Land" "count" "I", Cond.fieldLink RX0 26 "RoadDepots$Land" "open" "[Z", Cond.methodLink RX0 30 yX1_gap, Cond.methodLink RX4 71 yX2_put, Cond.methodLink RX4 49 yX1_gap, Cond.methodLink RX4 52 yX4_tellWay, Cond.instanceMethod yX4_tellWay, Cond.selects RX4 yX4_tellWay yX4_tellWay, Cond.code yX4_tellWay cX4_tellWay 4 none, Cond.fieldLink RX4 15 "RoadDepots$Teller" "ways" "LRoadDepots$Ways;", Cond.fieldLink RX4 79 "RoadDepots$Ways" "steps" "I", Cond.fieldLink RX4 83 "RoadDepots$Ways" "trail" "[I", Cond.methodLink RX4 74 yX6_walk]
def wsX8_says_r10 : List Cond := [Cond.instanceMethod yX6_walk, Cond.selects RX6 yX6_walk yX6_walk, Cond.initialized RX6, Cond.code yX6_walk cX6_walk 8 none, Cond.fieldLink RX6 9 "RoadDepots$Ways" "trail" "[I", Cond.fieldLink RX6 18 "RoadDepots$Ways" "land" "LRoadDepots$Land;", Cond.fieldLink RX6 22 "RoadDepots$Land" "roots" "[I", Cond.fieldLink RX6 27 "RoadDepots$Ways" "steps" "I", Cond.methodLink RX4 56 yX0_countWithin, Cond.instanceMethod yX0_countWithin, Cond.selects RX0 yX0_countWithin yX0_countWithin, Cond.code yX0_countWithin cX0_countWithin 5 (some .int), Cond.methodLink RX4 61 yX4_tellAll, Cond.instanceMethod yX4_tellAll, Cond.selects RX4 yX4_tellAll yX4_tellAll, Cond.code yX4_tellAll cX4_tellAll 3 none, Cond.fieldLink RX4 87 "RoadDepots$Land" "openCount" "I", Cond.fieldLink RX4 90 "RoadDepots$Land" "count" "I", Cond.fieldLink RX4 93 "RoadDepots$Land" "open" "[Z", Cond.methodLink RX4 64 yX0_total, Cond.instanceMethod yX0_total, Cond.selects RX0 yX0_total yX0_total, Cond.code yX0_total cX0_total 4 (some .int)]
def wsX8_says : List Cond := .code yX8_says cX8_says 3 (some .int) :: ((wsX8_says_r1 ++ (wsX8_says_r2 ++ (wsX8_says_r3 ++ (wsX8_says_r4 ++ (wsX8_says_r5 ++ (wsX8_says_r6 ++ (wsX8_says_r7 ++ (wsX8_says_r8 ++ (wsX8_says_r9 ++ wsX8_says_r10))))))))) ++ wsX80 ++ wsX10 ++ wsX30 ++ wsX50 ++ wsX20 ++ wsX40 ++ wsX00 ++ wsX60)
def wsX8_answer : List Cond := .code yX8_answer cX8_answer 2 (some .int) :: ([.fieldLink RX8 51 "RoadDepots" "line" "LRoadDepots$Line;", .fieldLink RX8 188 "RoadDepots$Line" "size" "I", .fieldLink RX8 189 "RoadDepots$Line" "signs" "[B", .methodLink RX8 110 yX8_refuseBadPlace, .instanceMethod yX8_refuseBadPlace, .selects RX8 yX8_refuseBadPlace yX8_refuseBadPlace, .initialized RX8, .code yX8_refuseBadPlace cX8_refuseBadPlace 1 (some .int), .fieldLink RX8 200 "RoadDepots" "badCalls" "I"] ++ wsX80 ++ wsX20)
def wsX8_tally : List Cond := .code yX8_tally cX8_tally 2 (some .int) :: ([.fieldLink RX8 200 "RoadDepots" "badCalls" "I", .fieldLink RX8 203 "RoadDepots" "fullCalls" "I", .fieldLink RX8 35 "RoadDepots" "text" "LRoadDepots$Text;", .fieldLink RX8 159 "RoadDepots$Text" "size" "I", .fieldLink RX8 12 "RoadDepots" "land" "LRoadDepots$Land;", .fieldLink RX8 75 "RoadDepots$Land" "count" "I", .fieldLink RX8 206 "RoadDepots$Land" "openCount" "I", .fieldLink RX8 51 "RoadDepots" "line" "LRoadDepots$Line;", .fieldLink RX8 188 "RoadDepots$Line" "size" "I"] ++ wsX80 ++ wsX50 ++ wsX10 ++ wsX20)
def wsX8_told : List Cond := .code yX8_told cX8_told 2 (some .int) :: ([.methodLink RX8 86 yX8_isUpTo, .static yX8_isUpTo, .initialized RX8, .code yX8_isUpTo cX8_isUpTo 2 (some .boolean), .methodLink RX8 71 yX8_refuseBad, .instanceMethod yX8_refuseBad, .selects RX8 yX8_refuseBad yX8_refuseBad, .code yX8_refuseBad cX8_refuseBad 1 (some .int), .fieldLink RX8 200 "RoadDepots" "badCalls" "I", .methodLink RX8 193 yX8_tally, .instanceMethod yX8_tally, .selects RX8 yX8_tally yX8_tally, .code yX8_tally cX8_tally 2 (some .int), .fieldLink RX8 203 "RoadDepots" "fullCalls" "I", .fieldLink RX8 35 "RoadDepots" "text" "LRoadDepots$Text;", .fieldLink RX8 159 "RoadDepots$Text" "size" "I", .fieldLink RX8 12 "RoadDepots" "land" "LRoadDepots$Land;", .fieldLink RX8 75 "RoadDepots$Land" "count" "I", .fieldLink RX8 206 "RoadDepots$Land" "openCount" "I", .fieldLink RX8 51 "RoadDepots" "line" "LRoadDepots$Line;", .fieldLink RX8 188 "RoadDepots$Line" "size" "I"] ++ wsX80 ++ wsX50 ++ wsX10 ++ wsX20)
def wsX8_digest_r1 : List Cond := [Cond.constantLong RX8 196 (1997), Cond.constantLong RX8 198 (31), Cond.fieldLink RX8 12 "RoadDepots" "land" "LRoadDepots$Land;", Cond.fieldLink RX8 75 "RoadDepots$Land" "count" "I", Cond.fieldLink RX8 51 "RoadDepots" "line" "LRoadDepots$Line;", Cond.fieldLink RX8 188 "RoadDepots$Line" "size" "I", Cond.fieldLink RX8 189 "RoadDepots$Line" "signs" "[B", Cond.methodLink RX8 193 yX8_tally, Cond.instanceMethod yX8_tally, Cond.selects RX8 yX8_tally yX8_tally, Cond.initialized RX8, Cond.code yX8_tally cX8_tally 2 (some .int), Cond.fieldLink RX8 200 "RoadDepots" "badCalls" "I", Cond.fieldLink RX8 203 "RoadDepots" "fullCalls" "I", Cond.fieldLink RX8 35 "RoadDepots" "text" "LRoadDepots$Text;", Cond.fieldLink RX8 159 "RoadDepots$Text" "size" "I", Cond.fieldLink RX8 206 "RoadDepots$Land" "openCount" "I", Cond.methodLink RX8 104 yX1_aspect, Cond.instanceMethod yX1_aspect, Cond.selects RX1 yX1_aspect yX1_aspect, Cond.initialized RX1, Cond.code yX1_aspect cX1_aspect 3 (some .int), Cond.fieldLink RX1 9 "RoadDepots$Land" "roots" "[I", Cond.fieldLink RX1 15 "RoadDepots$Land" "lengths" "[I"]
def wsX8_digest_r2 : List Cond := [Cond.fieldLink RX1 18 "RoadDepots$Land" "open" "[Z", Cond.methodLink RX1 68 yX1_countRoads, Cond.instanceMethod yX1_countRoads, Cond.selects RX1 yX1_countRoads yX1_countRoads, Cond.code yX1_countRoads cX1_countRoads 4 (some .int), Cond.fieldLink RX1 29 "RoadDepots$Land" "count" "I"]
def wsX8_digest : List Cond := .code yX8_digest cX8_digest 5 (some .long) :: ((wsX8_digest_r1 ++ wsX8_digest_r2) ++ wsX80 ++ wsX10 ++ wsX20 ++ wsX50)
def wsX9_init : List Cond := .code yX9_init cX9_init 1 none :: ([.methodLink RX9 1 objectInit, .instanceMethod objectInit, .code objectInit ⟨#[0xb1]⟩ 1 none, .arrayClass .int, .fieldLink RX9 7 "RoadDepotsModel" "roots" "[I", .fieldLink RX9 13 "RoadDepotsModel" "lengths" "[I", .arrayClass .boolean, .fieldLink RX9 16 "RoadDepotsModel" "isOpen" "[Z", .fieldLink RX9 20 "RoadDepotsModel" "text" "[I", .fieldLink RX9 23 "RoadDepotsModel" "answer" "[I", .fieldLink RX9 26 "RoadDepotsModel" "ways" "[I", .fieldLink RX9 29 "RoadDepotsModel" "sizes" "[I", .fieldLink RX9 32 "RoadDepotsModel" "numbers" "[I", .fieldLink RX9 35 "RoadDepotsModel" "villages" "I"] ++ wsX90)
def wsX9_in : List Cond := .code yX9_in cX9_in 6 (some .boolean) :: ([])
def wsX9_isVillage : List Cond := .code yX9_isVillage cX9_isVillage 2 (some .boolean) :: ([.fieldLink RX9 35 "RoadDepotsModel" "villages" "I", .methodLink RX9 39 yX9_in, .static yX9_in, .initialized RX9, .code yX9_in cX9_in 6 (some .boolean)] ++ wsX90)
def wsX9_refuse : List Cond := .code yX9_refuse cX9_refuse 1 (some .int) :: ([.fieldLink RX9 43 "RoadDepotsModel" "bad" "I"] ++ wsX90)
def wsX9_refuseFull : List Cond := .code yX9_refuseFull cX9_refuseFull 1 (some .int) :: ([.fieldLink RX9 46 "RoadDepotsModel" "full" "I"] ++ wsX90)
def wsX9_come : List Cond := .code yX9_come cX9_come 3 (some .int) :: ([.fieldLink RX9 7 "RoadDepotsModel" "roots" "[I", .fieldLink RX9 35 "RoadDepotsModel" "villages" "I", .fieldLink RX9 13 "RoadDepotsModel" "lengths" "[I", .fieldLink RX9 16 "RoadDepotsModel" "isOpen" "[Z"] ++ wsX90)
def wsX9_add_r1 : List Cond := [Cond.constantLong RX9 53 (99), Cond.fieldLink RX9 35 "RoadDepotsModel" "villages" "I", Cond.methodLink RX9 49 yX9_isVillage, Cond.instanceMethod yX9_isVillage, Cond.selects RX9 yX9_isVillage yX9_isVillage, Cond.initialized RX9, Cond.code yX9_isVillage cX9_isVillage 2 (some .boolean), Cond.methodLink RX9 39 yX9_in, Cond.static yX9_in, Cond.code yX9_in cX9_in 6 (some .boolean), Cond.methodLink RX9 55 yX9_refuse, Cond.instanceMethod yX9_refuse, Cond.selects RX9 yX9_refuse yX9_refuse, Cond.code yX9_refuse cX9_refuse 1 (some .int), Cond.fieldLink RX9 43 "RoadDepotsModel" "bad" "I", Cond.methodLink RX9 59 yX9_refuseFull, Cond.instanceMethod yX9_refuseFull, Cond.selects RX9 yX9_refuseFull yX9_refuseFull, Cond.code yX9_refuseFull cX9_refuseFull 1 (some .int), Cond.fieldLink RX9 46 "RoadDepotsModel" "full" "I", Cond.methodLink RX9 62 yX9_come, Cond.instanceMethod yX9_come, Cond.selects RX9 yX9_come yX9_come, Cond.code yX9_come cX9_come 3 (some .int)]
def wsX9_add_r2 : List Cond := [Cond.fieldLink RX9 7 "RoadDepotsModel" "roots" "[I", Cond.fieldLink RX9 13 "RoadDepotsModel" "lengths" "[I", Cond.fieldLink RX9 16 "RoadDepotsModel" "isOpen" "[Z"]
def wsX9_add : List Cond := .code yX9_add cX9_add 3 (some .int) :: ((wsX9_add_r1 ++ wsX9_add_r2) ++ wsX90)
def wsX9_becomes : List Cond := .code yX9_becomes cX9_becomes 4 (some .int) :: ([.fieldLink RX9 16 "RoadDepotsModel" "isOpen" "[Z"] ++ wsX90)
def wsX9_depot : List Cond := .code yX9_depot cX9_depot 3 (some .int) :: ([.methodLink RX9 49 yX9_isVillage, .instanceMethod yX9_isVillage, .selects RX9 yX9_isVillage yX9_isVillage, .initialized RX9, .code yX9_isVillage cX9_isVillage 2 (some .boolean), .fieldLink RX9 35 "RoadDepotsModel" "villages" "I", .methodLink RX9 39 yX9_in, .static yX9_in, .code yX9_in cX9_in 6 (some .boolean), .methodLink RX9 66 yX9_becomes, .instanceMethod yX9_becomes, .selects RX9 yX9_becomes yX9_becomes, .code yX9_becomes cX9_becomes 4 (some .int), .fieldLink RX9 16 "RoadDepotsModel" "isOpen" "[Z", .methodLink RX9 55 yX9_refuse, .instanceMethod yX9_refuse, .selects RX9 yX9_refuse yX9_refuse, .code yX9_refuse cX9_refuse 1 (some .int), .fieldLink RX9 43 "RoadDepotsModel" "bad" "I"] ++ wsX90)
def wsX9_lengthen : List Cond := .code yX9_lengthen cX9_lengthen 4 (some .int) :: ([.fieldLink RX9 13 "RoadDepotsModel" "lengths" "[I"] ++ wsX90)
def wsX9_road : List Cond := .code yX9_road cX9_road 3 (some .int) :: ([.constantLong RX9 53 (99), .methodLink RX9 49 yX9_isVillage, .instanceMethod yX9_isVillage, .selects RX9 yX9_isVillage yX9_isVillage, .initialized RX9, .code yX9_isVillage cX9_isVillage 2 (some .boolean), .fieldLink RX9 35 "RoadDepotsModel" "villages" "I", .methodLink RX9 39 yX9_in, .static yX9_in, .code yX9_in cX9_in 6 (some .boolean), .methodLink RX9 70 yX9_lengthen, .instanceMethod yX9_lengthen, .selects RX9 yX9_lengthen yX9_lengthen, .code yX9_lengthen cX9_lengthen 4 (some .int), .fieldLink RX9 13 "RoadDepotsModel" "lengths" "[I", .methodLink RX9 55 yX9_refuse, .instanceMethod yX9_refuse, .selects RX9 yX9_refuse yX9_refuse, .code yX9_refuse cX9_refuse 1 (some .int), .fieldLink RX9 43 "RoadDepotsModel" "bad" "I"] ++ wsX90)
def wsX9_anew : List Cond := .code yX9_anew cX9_anew 2 (some .int) :: ([.fieldLink RX9 35 "RoadDepotsModel" "villages" "I", .fieldLink RX9 16 "RoadDepotsModel" "isOpen" "[Z"] ++ wsX90)
def wsX9_draw_r1 : List Cond := [Cond.constantLong RX9 73 (999999), Cond.constantLong RX9 75 (59), Cond.constantLong RX9 80 (1103515245), Cond.constantLong RX9 82 (12345), Cond.constantLong RX9 84 (2147483648), Cond.constantLong RX9 86 (65536), Cond.fieldLink RX9 35 "RoadDepotsModel" "villages" "I", Cond.constantLong RX9 88 (1024), Cond.fieldLink RX9 16 "RoadDepotsModel" "isOpen" "[Z", Cond.constantLong RX9 90 (32768), Cond.constantLong RX9 92 (4), Cond.methodLink RX9 39 yX9_in, Cond.static yX9_in, Cond.initialized RX9, Cond.code yX9_in cX9_in 6 (some .boolean), Cond.methodLink RX9 55 yX9_refuse, Cond.instanceMethod yX9_refuse, Cond.selects RX9 yX9_refuse yX9_refuse, Cond.code yX9_refuse cX9_refuse 1 (some .int), Cond.fieldLink RX9 43 "RoadDepotsModel" "bad" "I", Cond.methodLink RX9 77 yX9_anew, Cond.instanceMethod yX9_anew, Cond.selects RX9 yX9_anew yX9_anew, Cond.code yX9_anew cX9_anew 2 (some .int)]
def wsX9_draw_r2 : List Cond := [Cond.methodLink RX9 62 yX9_come, Cond.instanceMethod yX9_come, Cond.selects RX9 yX9_come yX9_come, Cond.code yX9_come cX9_come 3 (some .int), Cond.fieldLink RX9 7 "RoadDepotsModel" "roots" "[I", Cond.fieldLink RX9 13 "RoadDepotsModel" "lengths" "[I"]
def wsX9_draw : List Cond := .code yX9_draw cX9_draw 8 (some .int) :: ((wsX9_draw_r1 ++ wsX9_draw_r2) ++ wsX90)
def wsX9_partOf : List Cond := .code yX9_partOf cX9_partOf 3 (some .int) :: ([.fieldLink RX9 7 "RoadDepotsModel" "roots" "[I", .fieldLink RX9 13 "RoadDepotsModel" "lengths" "[I", .fieldLink RX9 16 "RoadDepotsModel" "isOpen" "[Z"] ++ wsX90)
def wsX9_of : List Cond := .code yX9_of cX9_of 5 (some .int) :: ([.constantLong RX9 94 (3), .fieldLink RX9 35 "RoadDepotsModel" "villages" "I", .fieldLink RX9 7 "RoadDepotsModel" "roots" "[I", .methodLink RX9 49 yX9_isVillage, .instanceMethod yX9_isVillage, .selects RX9 yX9_isVillage yX9_isVillage, .initialized RX9, .code yX9_isVillage cX9_isVillage 2 (some .boolean), .methodLink RX9 39 yX9_in, .static yX9_in, .code yX9_in cX9_in 6 (some .boolean), .methodLink RX9 55 yX9_refuse, .instanceMethod yX9_refuse, .selects RX9 yX9_refuse yX9_refuse, .code yX9_refuse cX9_refuse 1 (some .int), .fieldLink RX9 43 "RoadDepotsModel" "bad" "I", .methodLink RX9 96 yX9_partOf, .instanceMethod yX9_partOf, .selects RX9 yX9_partOf yX9_partOf, .code yX9_partOf cX9_partOf 3 (some .int), .fieldLink RX9 13 "RoadDepotsModel" "lengths" "[I", .fieldLink RX9 16 "RoadDepotsModel" "isOpen" "[Z"] ++ wsX90)
def wsX9_farFrom : List Cond := .code yX9_farFrom cX9_farFrom 6 (some .int) :: ([.fieldLink RX9 13 "RoadDepotsModel" "lengths" "[I", .fieldLink RX9 7 "RoadDepotsModel" "roots" "[I"] ++ wsX90)
def wsX9_far : List Cond := .code yX9_far cX9_far 3 (some .int) :: ([.methodLink RX9 49 yX9_isVillage, .instanceMethod yX9_isVillage, .selects RX9 yX9_isVillage yX9_isVillage, .initialized RX9, .code yX9_isVillage cX9_isVillage 2 (some .boolean), .fieldLink RX9 35 "RoadDepotsModel" "villages" "I", .methodLink RX9 39 yX9_in, .static yX9_in, .code yX9_in cX9_in 6 (some .boolean), .methodLink RX9 99 yX9_farFrom, .instanceMethod yX9_farFrom, .selects RX9 yX9_farFrom yX9_farFrom, .code yX9_farFrom cX9_farFrom 6 (some .int), .fieldLink RX9 13 "RoadDepotsModel" "lengths" "[I", .fieldLink RX9 7 "RoadDepotsModel" "roots" "[I", .methodLink RX9 55 yX9_refuse, .instanceMethod yX9_refuse, .selects RX9 yX9_refuse yX9_refuse, .code yX9_refuse cX9_refuse 1 (some .int), .fieldLink RX9 43 "RoadDepotsModel" "bad" "I"] ++ wsX90)
def wsX9_findWay : List Cond := .code yX9_findWay cX9_findWay 8 none :: ([.fieldLink RX9 26 "RoadDepotsModel" "ways" "[I", .fieldLink RX9 7 "RoadDepotsModel" "roots" "[I", .fieldLink RX9 102 "RoadDepotsModel" "wayMany" "I"] ++ wsX90)
def wsX9_way : List Cond := .code yX9_way cX9_way 4 (some .int) :: ([.fieldLink RX9 102 "RoadDepotsModel" "wayMany" "I", .fieldLink RX9 26 "RoadDepotsModel" "ways" "[I", .methodLink RX9 49 yX9_isVillage, .instanceMethod yX9_isVillage, .selects RX9 yX9_isVillage yX9_isVillage, .initialized RX9, .code yX9_isVillage cX9_isVillage 2 (some .boolean), .fieldLink RX9 35 "RoadDepotsModel" "villages" "I", .methodLink RX9 39 yX9_in, .static yX9_in, .code yX9_in cX9_in 6 (some .boolean), .methodLink RX9 55 yX9_refuse, .instanceMethod yX9_refuse, .selects RX9 yX9_refuse yX9_refuse, .code yX9_refuse cX9_refuse 1 (some .int), .fieldLink RX9 43 "RoadDepotsModel" "bad" "I", .methodLink RX9 105 yX9_findWay, .instanceMethod yX9_findWay, .selects RX9 yX9_findWay yX9_findWay, .code yX9_findWay cX9_findWay 8 none, .fieldLink RX9 7 "RoadDepotsModel" "roots" "[I"] ++ wsX90)
def wsX9_farthest : List Cond := .code yX9_farthest cX9_farthest 5 (some .int) :: ([.fieldLink RX9 35 "RoadDepotsModel" "villages" "I", .methodLink RX9 99 yX9_farFrom, .instanceMethod yX9_farFrom, .selects RX9 yX9_farFrom yX9_farFrom, .initialized RX9, .code yX9_farFrom cX9_farFrom 6 (some .int), .fieldLink RX9 13 "RoadDepotsModel" "lengths" "[I", .fieldLink RX9 7 "RoadDepotsModel" "roots" "[I"] ++ wsX90)
def wsX9_longest : List Cond := .code yX9_longest cX9_longest 6 (some .int) :: ([.constantLong RX9 109 (2), .fieldLink RX9 35 "RoadDepotsModel" "villages" "I", .methodLink RX9 39 yX9_in, .static yX9_in, .initialized RX9, .code yX9_in cX9_in 6 (some .boolean), .methodLink RX9 55 yX9_refuse, .instanceMethod yX9_refuse, .selects RX9 yX9_refuse yX9_refuse, .code yX9_refuse cX9_refuse 1 (some .int), .fieldLink RX9 43 "RoadDepotsModel" "bad" "I", .methodLink RX9 111 yX9_farthest, .instanceMethod yX9_farthest, .selects RX9 yX9_farthest yX9_farthest, .code yX9_farthest cX9_farthest 5 (some .int), .methodLink RX9 99 yX9_farFrom, .instanceMethod yX9_farFrom, .selects RX9 yX9_farFrom yX9_farFrom, .code yX9_farFrom cX9_farFrom 6 (some .int), .fieldLink RX9 13 "RoadDepotsModel" "lengths" "[I", .fieldLink RX9 7 "RoadDepotsModel" "roots" "[I"] ++ wsX90)
def wsX9_sumFrom : List Cond := .code yX9_sumFrom cX9_sumFrom 4 (some .int) :: ([.fieldLink RX9 35 "RoadDepotsModel" "villages" "I", .methodLink RX9 99 yX9_farFrom, .instanceMethod yX9_farFrom, .selects RX9 yX9_farFrom yX9_farFrom, .initialized RX9, .code yX9_farFrom cX9_farFrom 6 (some .int), .fieldLink RX9 13 "RoadDepotsModel" "lengths" "[I", .fieldLink RX9 7 "RoadDepotsModel" "roots" "[I"] ++ wsX90)
def wsX9_restOf : List Cond := .code yX9_restOf cX9_restOf 4 (some .int) :: ([.fieldLink RX9 35 "RoadDepotsModel" "villages" "I", .fieldLink RX9 29 "RoadDepotsModel" "sizes" "[I", .fieldLink RX9 7 "RoadDepotsModel" "roots" "[I"] ++ wsX90)
def wsX9_middle_r1 : List Cond := [Cond.constantLong RX9 109 (2), Cond.fieldLink RX9 35 "RoadDepotsModel" "villages" "I", Cond.methodLink RX9 39 yX9_in, Cond.static yX9_in, Cond.initialized RX9, Cond.code yX9_in cX9_in 6 (some .boolean), Cond.methodLink RX9 55 yX9_refuse, Cond.instanceMethod yX9_refuse, Cond.selects RX9 yX9_refuse yX9_refuse, Cond.code yX9_refuse cX9_refuse 1 (some .int), Cond.fieldLink RX9 43 "RoadDepotsModel" "bad" "I", Cond.methodLink RX9 111 yX9_farthest, Cond.instanceMethod yX9_farthest, Cond.selects RX9 yX9_farthest yX9_farthest, Cond.code yX9_farthest cX9_farthest 5 (some .int), Cond.methodLink RX9 99 yX9_farFrom, Cond.instanceMethod yX9_farFrom, Cond.selects RX9 yX9_farFrom yX9_farFrom, Cond.code yX9_farFrom cX9_farFrom 6 (some .int), Cond.fieldLink RX9 13 "RoadDepotsModel" "lengths" "[I", Cond.fieldLink RX9 7 "RoadDepotsModel" "roots" "[I", Cond.methodLink RX9 115 yX9_sumFrom, Cond.instanceMethod yX9_sumFrom, Cond.selects RX9 yX9_sumFrom yX9_sumFrom]
def wsX9_middle_r2 : List Cond := [Cond.code yX9_sumFrom cX9_sumFrom 4 (some .int), Cond.methodLink RX9 118 yX9_restOf, Cond.instanceMethod yX9_restOf, Cond.selects RX9 yX9_restOf yX9_restOf, Cond.code yX9_restOf cX9_restOf 4 (some .int), Cond.fieldLink RX9 29 "RoadDepotsModel" "sizes" "[I"]
def wsX9_middle : List Cond := .code yX9_middle cX9_middle 6 (some .int) :: ((wsX9_middle_r1 ++ wsX9_middle_r2) ++ wsX90)
def wsX9_openMany : List Cond := .code yX9_openMany cX9_openMany 3 (some .int) :: ([.fieldLink RX9 35 "RoadDepotsModel" "villages" "I", .fieldLink RX9 16 "RoadDepotsModel" "isOpen" "[Z"] ++ wsX90)
def wsX9_nearestOf : List Cond := .code yX9_nearestOf cX9_nearestOf 4 (some .int) :: ([.fieldLink RX9 35 "RoadDepotsModel" "villages" "I", .fieldLink RX9 16 "RoadDepotsModel" "isOpen" "[Z", .methodLink RX9 99 yX9_farFrom, .instanceMethod yX9_farFrom, .selects RX9 yX9_farFrom yX9_farFrom, .initialized RX9, .code yX9_farFrom cX9_farFrom 6 (some .int), .fieldLink RX9 13 "RoadDepotsModel" "lengths" "[I", .fieldLink RX9 7 "RoadDepotsModel" "roots" "[I"] ++ wsX90)
def wsX9_nearest_r1 : List Cond := [Cond.methodLink RX9 49 yX9_isVillage, Cond.instanceMethod yX9_isVillage, Cond.selects RX9 yX9_isVillage yX9_isVillage, Cond.initialized RX9, Cond.code yX9_isVillage cX9_isVillage 2 (some .boolean), Cond.fieldLink RX9 35 "RoadDepotsModel" "villages" "I", Cond.methodLink RX9 39 yX9_in, Cond.static yX9_in, Cond.code yX9_in cX9_in 6 (some .boolean), Cond.methodLink RX9 55 yX9_refuse, Cond.instanceMethod yX9_refuse, Cond.selects RX9 yX9_refuse yX9_refuse, Cond.code yX9_refuse cX9_refuse 1 (some .int), Cond.fieldLink RX9 43 "RoadDepotsModel" "bad" "I", Cond.methodLink RX9 121 yX9_nearestOf, Cond.instanceMethod yX9_nearestOf, Cond.selects RX9 yX9_nearestOf yX9_nearestOf, Cond.code yX9_nearestOf cX9_nearestOf 4 (some .int), Cond.fieldLink RX9 16 "RoadDepotsModel" "isOpen" "[Z", Cond.methodLink RX9 99 yX9_farFrom, Cond.instanceMethod yX9_farFrom, Cond.selects RX9 yX9_farFrom yX9_farFrom, Cond.code yX9_farFrom cX9_farFrom 6 (some .int), Cond.fieldLink RX9 13 "RoadDepotsModel" "lengths" "[I"]
def wsX9_nearest_r2 : List Cond := [Cond.fieldLink RX9 7 "RoadDepotsModel" "roots" "[I"]
def wsX9_nearest : List Cond := .code yX9_nearest cX9_nearest 4 (some .int) :: ((wsX9_nearest_r1 ++ wsX9_nearest_r2) ++ wsX90)
def wsX9_turn : List Cond := .code yX9_turn cX9_turn 8 (some .int) :: ([.fieldLink RX9 35 "RoadDepotsModel" "villages" "I", .fieldLink RX9 16 "RoadDepotsModel" "isOpen" "[Z", .methodLink RX9 49 yX9_isVillage, .instanceMethod yX9_isVillage, .selects RX9 yX9_isVillage yX9_isVillage, .initialized RX9, .code yX9_isVillage cX9_isVillage 2 (some .boolean), .methodLink RX9 39 yX9_in, .static yX9_in, .code yX9_in cX9_in 6 (some .boolean), .methodLink RX9 55 yX9_refuse, .instanceMethod yX9_refuse, .selects RX9 yX9_refuse yX9_refuse, .code yX9_refuse cX9_refuse 1 (some .int), .fieldLink RX9 43 "RoadDepotsModel" "bad" "I", .methodLink RX9 99 yX9_farFrom, .instanceMethod yX9_farFrom, .selects RX9 yX9_farFrom yX9_farFrom, .code yX9_farFrom cX9_farFrom 6 (some .int), .fieldLink RX9 13 "RoadDepotsModel" "lengths" "[I", .fieldLink RX9 7 "RoadDepotsModel" "roots" "[I"] ++ wsX90)
def wsX9_manyWithin : List Cond := .code yX9_manyWithin cX9_manyWithin 5 (some .int) :: ([.fieldLink RX9 35 "RoadDepotsModel" "villages" "I", .fieldLink RX9 16 "RoadDepotsModel" "isOpen" "[Z", .methodLink RX9 99 yX9_farFrom, .instanceMethod yX9_farFrom, .selects RX9 yX9_farFrom yX9_farFrom, .initialized RX9, .code yX9_farFrom cX9_farFrom 6 (some .int), .fieldLink RX9 13 "RoadDepotsModel" "lengths" "[I", .fieldLink RX9 7 "RoadDepotsModel" "roots" "[I"] ++ wsX90)
def wsX9_within_r1 : List Cond := [Cond.constantLong RX9 124 (6000), Cond.methodLink RX9 49 yX9_isVillage, Cond.instanceMethod yX9_isVillage, Cond.selects RX9 yX9_isVillage yX9_isVillage, Cond.initialized RX9, Cond.code yX9_isVillage cX9_isVillage 2 (some .boolean), Cond.fieldLink RX9 35 "RoadDepotsModel" "villages" "I", Cond.methodLink RX9 39 yX9_in, Cond.static yX9_in, Cond.code yX9_in cX9_in 6 (some .boolean), Cond.methodLink RX9 126 yX9_manyWithin, Cond.instanceMethod yX9_manyWithin, Cond.selects RX9 yX9_manyWithin yX9_manyWithin, Cond.code yX9_manyWithin cX9_manyWithin 5 (some .int), Cond.fieldLink RX9 16 "RoadDepotsModel" "isOpen" "[Z", Cond.methodLink RX9 99 yX9_farFrom, Cond.instanceMethod yX9_farFrom, Cond.selects RX9 yX9_farFrom yX9_farFrom, Cond.code yX9_farFrom cX9_farFrom 6 (some .int), Cond.fieldLink RX9 13 "RoadDepotsModel" "lengths" "[I", Cond.fieldLink RX9 7 "RoadDepotsModel" "roots" "[I", Cond.methodLink RX9 55 yX9_refuse, Cond.instanceMethod yX9_refuse, Cond.selects RX9 yX9_refuse yX9_refuse]
def wsX9_within_r2 : List Cond := [Cond.code yX9_refuse cX9_refuse 1 (some .int), Cond.fieldLink RX9 43 "RoadDepotsModel" "bad" "I"]
def wsX9_within : List Cond := .code yX9_within cX9_within 3 (some .int) :: ((wsX9_within_r1 ++ wsX9_within_r2) ++ wsX90)
def wsX9_sumOfOpen : List Cond := .code yX9_sumOfOpen cX9_sumOfOpen 4 (some .int) :: ([.fieldLink RX9 35 "RoadDepotsModel" "villages" "I", .fieldLink RX9 16 "RoadDepotsModel" "isOpen" "[Z", .methodLink RX9 99 yX9_farFrom, .instanceMethod yX9_farFrom, .selects RX9 yX9_farFrom yX9_farFrom, .initialized RX9, .code yX9_farFrom cX9_farFrom 6 (some .int), .fieldLink RX9 13 "RoadDepotsModel" "lengths" "[I", .fieldLink RX9 7 "RoadDepotsModel" "roots" "[I"] ++ wsX90)
def wsX9_sum_r1 : List Cond := [Cond.methodLink RX9 49 yX9_isVillage, Cond.instanceMethod yX9_isVillage, Cond.selects RX9 yX9_isVillage yX9_isVillage, Cond.initialized RX9, Cond.code yX9_isVillage cX9_isVillage 2 (some .boolean), Cond.fieldLink RX9 35 "RoadDepotsModel" "villages" "I", Cond.methodLink RX9 39 yX9_in, Cond.static yX9_in, Cond.code yX9_in cX9_in 6 (some .boolean), Cond.methodLink RX9 129 yX9_sumOfOpen, Cond.instanceMethod yX9_sumOfOpen, Cond.selects RX9 yX9_sumOfOpen yX9_sumOfOpen, Cond.code yX9_sumOfOpen cX9_sumOfOpen 4 (some .int), Cond.fieldLink RX9 16 "RoadDepotsModel" "isOpen" "[Z", Cond.methodLink RX9 99 yX9_farFrom, Cond.instanceMethod yX9_farFrom, Cond.selects RX9 yX9_farFrom yX9_farFrom, Cond.code yX9_farFrom cX9_farFrom 6 (some .int), Cond.fieldLink RX9 13 "RoadDepotsModel" "lengths" "[I", Cond.fieldLink RX9 7 "RoadDepotsModel" "roots" "[I", Cond.methodLink RX9 55 yX9_refuse, Cond.instanceMethod yX9_refuse, Cond.selects RX9 yX9_refuse yX9_refuse, Cond.code yX9_refuse cX9_refuse 1 (some .int)]
def wsX9_sum_r2 : List Cond := [Cond.fieldLink RX9 43 "RoadDepotsModel" "bad" "I"]
def wsX9_sum : List Cond := .code yX9_sum cX9_sum 2 (some .int) :: ((wsX9_sum_r1 ++ wsX9_sum_r2) ++ wsX90)
def wsX9_findLeft : List Cond := .code yX9_findLeft cX9_findLeft 5 (some .int) :: ([.fieldLink RX9 35 "RoadDepotsModel" "villages" "I", .fieldLink RX9 132 "RoadDepotsModel" "leftVillage" "I", .methodLink RX9 121 yX9_nearestOf, .instanceMethod yX9_nearestOf, .selects RX9 yX9_nearestOf yX9_nearestOf, .initialized RX9, .code yX9_nearestOf cX9_nearestOf 4 (some .int), .fieldLink RX9 16 "RoadDepotsModel" "isOpen" "[Z", .methodLink RX9 99 yX9_farFrom, .instanceMethod yX9_farFrom, .selects RX9 yX9_farFrom yX9_farFrom, .code yX9_farFrom cX9_farFrom 6 (some .int), .fieldLink RX9 13 "RoadDepotsModel" "lengths" "[I", .fieldLink RX9 7 "RoadDepotsModel" "roots" "[I"] ++ wsX90)
def wsX9_left_r1 : List Cond := [Cond.fieldLink RX9 132 "RoadDepotsModel" "leftVillage" "I", Cond.methodLink RX9 39 yX9_in, Cond.static yX9_in, Cond.initialized RX9, Cond.code yX9_in cX9_in 6 (some .boolean), Cond.methodLink RX9 55 yX9_refuse, Cond.instanceMethod yX9_refuse, Cond.selects RX9 yX9_refuse yX9_refuse, Cond.code yX9_refuse cX9_refuse 1 (some .int), Cond.fieldLink RX9 43 "RoadDepotsModel" "bad" "I", Cond.methodLink RX9 135 yX9_findLeft, Cond.instanceMethod yX9_findLeft, Cond.selects RX9 yX9_findLeft yX9_findLeft, Cond.code yX9_findLeft cX9_findLeft 5 (some .int), Cond.fieldLink RX9 35 "RoadDepotsModel" "villages" "I", Cond.methodLink RX9 121 yX9_nearestOf, Cond.instanceMethod yX9_nearestOf, Cond.selects RX9 yX9_nearestOf yX9_nearestOf, Cond.code yX9_nearestOf cX9_nearestOf 4 (some .int), Cond.fieldLink RX9 16 "RoadDepotsModel" "isOpen" "[Z", Cond.methodLink RX9 99 yX9_farFrom, Cond.instanceMethod yX9_farFrom, Cond.selects RX9 yX9_farFrom yX9_farFrom, Cond.code yX9_farFrom cX9_farFrom 6 (some .int)]
def wsX9_left_r2 : List Cond := [Cond.fieldLink RX9 13 "RoadDepotsModel" "lengths" "[I", Cond.fieldLink RX9 7 "RoadDepotsModel" "roots" "[I"]
def wsX9_left : List Cond := .code yX9_left cX9_left 3 (some .int) :: ((wsX9_left_r1 ++ wsX9_left_r2) ++ wsX90)
def wsX9_more_r1 : List Cond := [Cond.fieldLink RX9 35 "RoadDepotsModel" "villages" "I", Cond.fieldLink RX9 16 "RoadDepotsModel" "isOpen" "[Z", Cond.methodLink RX9 39 yX9_in, Cond.static yX9_in, Cond.initialized RX9, Cond.code yX9_in cX9_in 6 (some .boolean), Cond.methodLink RX9 55 yX9_refuse, Cond.instanceMethod yX9_refuse, Cond.selects RX9 yX9_refuse yX9_refuse, Cond.code yX9_refuse cX9_refuse 1 (some .int), Cond.fieldLink RX9 43 "RoadDepotsModel" "bad" "I", Cond.methodLink RX9 135 yX9_findLeft, Cond.instanceMethod yX9_findLeft, Cond.selects RX9 yX9_findLeft yX9_findLeft, Cond.code yX9_findLeft cX9_findLeft 5 (some .int), Cond.fieldLink RX9 132 "RoadDepotsModel" "leftVillage" "I", Cond.methodLink RX9 121 yX9_nearestOf, Cond.instanceMethod yX9_nearestOf, Cond.selects RX9 yX9_nearestOf yX9_nearestOf, Cond.code yX9_nearestOf cX9_nearestOf 4 (some .int), Cond.methodLink RX9 99 yX9_farFrom, Cond.instanceMethod yX9_farFrom, Cond.selects RX9 yX9_farFrom yX9_farFrom, Cond.code yX9_farFrom cX9_farFrom 6 (some .int)]
def wsX9_more_r2 : List Cond := [Cond.fieldLink RX9 13 "RoadDepotsModel" "lengths" "[I", Cond.fieldLink RX9 7 "RoadDepotsModel" "roots" "[I"]
def wsX9_more : List Cond := .code yX9_more cX9_more 6 (some .int) :: ((wsX9_more_r1 ++ wsX9_more_r2) ++ wsX90)
def wsX9_serves_r1 : List Cond := [Cond.fieldLink RX9 16 "RoadDepotsModel" "isOpen" "[Z", Cond.fieldLink RX9 35 "RoadDepotsModel" "villages" "I", Cond.methodLink RX9 49 yX9_isVillage, Cond.instanceMethod yX9_isVillage, Cond.selects RX9 yX9_isVillage yX9_isVillage, Cond.initialized RX9, Cond.code yX9_isVillage cX9_isVillage 2 (some .boolean), Cond.methodLink RX9 39 yX9_in, Cond.static yX9_in, Cond.code yX9_in cX9_in 6 (some .boolean), Cond.methodLink RX9 55 yX9_refuse, Cond.instanceMethod yX9_refuse, Cond.selects RX9 yX9_refuse yX9_refuse, Cond.code yX9_refuse cX9_refuse 1 (some .int), Cond.fieldLink RX9 43 "RoadDepotsModel" "bad" "I", Cond.methodLink RX9 121 yX9_nearestOf, Cond.instanceMethod yX9_nearestOf, Cond.selects RX9 yX9_nearestOf yX9_nearestOf, Cond.code yX9_nearestOf cX9_nearestOf 4 (some .int), Cond.methodLink RX9 99 yX9_farFrom, Cond.instanceMethod yX9_farFrom, Cond.selects RX9 yX9_farFrom yX9_farFrom, Cond.code yX9_farFrom cX9_farFrom 6 (some .int), Cond.fieldLink RX9 13 "RoadDepotsModel" "lengths" "[I"]
def wsX9_serves_r2 : List Cond := [Cond.fieldLink RX9 7 "RoadDepotsModel" "roots" "[I"]
def wsX9_serves : List Cond := .code yX9_serves cX9_serves 5 (some .int) :: ((wsX9_serves_r1 ++ wsX9_serves_r2) ++ wsX90)
def wsX9_pair : List Cond := .code yX9_pair cX9_pair 7 (some .int) :: ([.constantLong RX9 109 (2), .fieldLink RX9 35 "RoadDepotsModel" "villages" "I", .fieldLink RX9 16 "RoadDepotsModel" "isOpen" "[Z", .methodLink RX9 39 yX9_in, .static yX9_in, .initialized RX9, .code yX9_in cX9_in 6 (some .boolean), .methodLink RX9 55 yX9_refuse, .instanceMethod yX9_refuse, .selects RX9 yX9_refuse yX9_refuse, .code yX9_refuse cX9_refuse 1 (some .int), .fieldLink RX9 43 "RoadDepotsModel" "bad" "I", .methodLink RX9 99 yX9_farFrom, .instanceMethod yX9_farFrom, .selects RX9 yX9_farFrom yX9_farFrom, .code yX9_farFrom cX9_farFrom 6 (some .int), .fieldLink RX9 13 "RoadDepotsModel" "lengths" "[I", .fieldLink RX9 7 "RoadDepotsModel" "roots" "[I"] ++ wsX90)
def wsX9_type : List Cond := .code yX9_type cX9_type 2 (some .int) :: ([.constantLong RX9 138 (127), .fieldLink RX9 140 "RoadDepotsModel" "length" "I", .fieldLink RX9 20 "RoadDepotsModel" "text" "[I", .methodLink RX9 39 yX9_in, .static yX9_in, .initialized RX9, .code yX9_in cX9_in 6 (some .boolean), .methodLink RX9 55 yX9_refuse, .instanceMethod yX9_refuse, .selects RX9 yX9_refuse yX9_refuse, .code yX9_refuse cX9_refuse 1 (some .int), .fieldLink RX9 43 "RoadDepotsModel" "bad" "I", .methodLink RX9 59 yX9_refuseFull, .instanceMethod yX9_refuseFull, .selects RX9 yX9_refuseFull yX9_refuseFull, .code yX9_refuseFull cX9_refuseFull 1 (some .int), .fieldLink RX9 46 "RoadDepotsModel" "full" "I"] ++ wsX90)
def wsX9_clear : List Cond := .code yX9_clear cX9_clear 2 (some .int) :: ([.fieldLink RX9 140 "RoadDepotsModel" "length" "I"] ++ wsX90)
def wsX9_isFigure : List Cond := .code yX9_isFigure cX9_isFigure 1 (some .boolean) :: ([.constantLong RX9 143 (48), .constantLong RX9 145 (57), .methodLink RX9 39 yX9_in, .static yX9_in, .initialized RX9, .code yX9_in cX9_in 6 (some .boolean)])
def wsX9_isLetter : List Cond := .code yX9_isLetter cX9_isLetter 1 (some .boolean) :: ([.constantLong RX9 147 (97), .constantLong RX9 149 (122), .methodLink RX9 39 yX9_in, .static yX9_in, .initialized RX9, .code yX9_in cX9_in 6 (some .boolean)])
def wsX9_next : List Cond := .code yX9_next cX9_next 3 none :: ([.fieldLink RX9 151 "RoadDepotsModel" "spot" "I", .fieldLink RX9 140 "RoadDepotsModel" "length" "I", .fieldLink RX9 20 "RoadDepotsModel" "text" "[I", .fieldLink RX9 154 "RoadDepotsModel" "begins" "I", .fieldLink RX9 157 "RoadDepotsModel" "value" "I", .fieldLink RX9 160 "RoadDepotsModel" "token" "I", .methodLink RX9 163 yX9_isLetter, .static yX9_isLetter, .initialized RX9, .code yX9_isLetter cX9_isLetter 1 (some .boolean), .constantLong RX9 147 (97), .constantLong RX9 149 (122), .methodLink RX9 39 yX9_in, .static yX9_in, .code yX9_in cX9_in 6 (some .boolean), .methodLink RX9 166 yX9_isFigure, .static yX9_isFigure, .code yX9_isFigure cX9_isFigure 1 (some .boolean), .constantLong RX9 143 (48), .constantLong RX9 145 (57)] ++ wsX90)
def wsX9_manyOf : List Cond := .code yX9_manyOf cX9_manyOf 1 (some .int) :: ([])
def wsX9_mayBe : List Cond := .code yX9_mayBe cX9_mayBe 3 (some .boolean) :: ([.fieldLink RX9 169 "RoadDepotsModel" "word" "I", .constant RX9 172 (605220), .fieldLink RX9 173 "RoadDepotsModel" "then" "I", .constantLong RX9 53 (99), .constant RX9 176 (781852974), .methodLink RX9 39 yX9_in, .static yX9_in, .initialized RX9, .code yX9_in cX9_in 6 (some .boolean)] ++ wsX90)
def wsX9_isSentence_r1 : List Cond := [Cond.fieldLink RX9 157 "RoadDepotsModel" "value" "I", Cond.fieldLink RX9 169 "RoadDepotsModel" "word" "I", Cond.fieldLink RX9 160 "RoadDepotsModel" "token" "I", Cond.fieldLink RX9 173 "RoadDepotsModel" "then" "I", Cond.fieldLink RX9 32 "RoadDepotsModel" "numbers" "[I", Cond.methodLink RX9 177 yX9_next, Cond.instanceMethod yX9_next, Cond.selects RX9 yX9_next yX9_next, Cond.initialized RX9, Cond.code yX9_next cX9_next 3 none, Cond.fieldLink RX9 151 "RoadDepotsModel" "spot" "I", Cond.fieldLink RX9 140 "RoadDepotsModel" "length" "I", Cond.fieldLink RX9 20 "RoadDepotsModel" "text" "[I", Cond.fieldLink RX9 154 "RoadDepotsModel" "begins" "I", Cond.methodLink RX9 163 yX9_isLetter, Cond.static yX9_isLetter, Cond.code yX9_isLetter cX9_isLetter 1 (some .boolean), Cond.constantLong RX9 147 (97), Cond.constantLong RX9 149 (122), Cond.methodLink RX9 39 yX9_in, Cond.static yX9_in, Cond.code yX9_in cX9_in 6 (some .boolean), Cond.methodLink RX9 166 yX9_isFigure, Cond.static yX9_isFigure]
def wsX9_isSentence_r2 : List Cond := [Cond.code yX9_isFigure cX9_isFigure 1 (some .boolean), Cond.constantLong RX9 143 (48), Cond.constantLong RX9 145 (57), Cond.methodLink RX9 180 yX9_manyOf, Cond.static yX9_manyOf, Cond.code yX9_manyOf cX9_manyOf 1 (some .int), Cond.methodLink RX9 183 yX9_mayBe, Cond.instanceMethod yX9_mayBe, Cond.selects RX9 yX9_mayBe yX9_mayBe, Cond.code yX9_mayBe cX9_mayBe 3 (some .boolean), Cond.constant RX9 172 (605220), Cond.constantLong RX9 53 (99), Cond.constant RX9 176 (781852974)]
def wsX9_isSentence : List Cond := .code yX9_isSentence cX9_isSentence 3 (some .boolean) :: ((wsX9_isSentence_r1 ++ wsX9_isSentence_r2) ++ wsX90)
def wsX9_isMore : List Cond := .code yX9_isMore cX9_isMore 2 (some .boolean) :: ([.fieldLink RX9 151 "RoadDepotsModel" "spot" "I", .fieldLink RX9 140 "RoadDepotsModel" "length" "I", .fieldLink RX9 20 "RoadDepotsModel" "text" "[I"] ++ wsX90)
def wsX9_putSign : List Cond := .code yX9_putSign cX9_putSign 2 none :: ([.fieldLink RX9 187 "RoadDepotsModel" "signs" "I", .fieldLink RX9 23 "RoadDepotsModel" "answer" "[I"] ++ wsX90)
def wsX9_putNumber : List Cond := .code yX9_putNumber cX9_putNumber 3 none :: ([.methodLink RX9 190 yX9_putSign, .instanceMethod yX9_putSign, .selects RX9 yX9_putSign yX9_putSign, .initialized RX9, .code yX9_putSign cX9_putSign 2 none, .fieldLink RX9 187 "RoadDepotsModel" "signs" "I", .fieldLink RX9 23 "RoadDepotsModel" "answer" "[I"] ++ wsX90)
def wsX9_sayWay : List Cond := .code yX9_sayWay cX9_sayWay 2 none :: ([.fieldLink RX9 32 "RoadDepotsModel" "numbers" "[I", .fieldLink RX9 102 "RoadDepotsModel" "wayMany" "I", .fieldLink RX9 26 "RoadDepotsModel" "ways" "[I", .methodLink RX9 105 yX9_findWay, .instanceMethod yX9_findWay, .selects RX9 yX9_findWay yX9_findWay, .initialized RX9, .code yX9_findWay cX9_findWay 8 none, .fieldLink RX9 7 "RoadDepotsModel" "roots" "[I", .methodLink RX9 190 yX9_putSign, .instanceMethod yX9_putSign, .selects RX9 yX9_putSign yX9_putSign, .code yX9_putSign cX9_putSign 2 none, .fieldLink RX9 187 "RoadDepotsModel" "signs" "I", .fieldLink RX9 23 "RoadDepotsModel" "answer" "[I", .methodLink RX9 194 yX9_putNumber, .instanceMethod yX9_putNumber, .selects RX9 yX9_putNumber yX9_putNumber, .code yX9_putNumber cX9_putNumber 3 none] ++ wsX90)
def wsX9_sayAll : List Cond := .code yX9_sayAll cX9_sayAll 3 none :: ([.fieldLink RX9 35 "RoadDepotsModel" "villages" "I", .fieldLink RX9 16 "RoadDepotsModel" "isOpen" "[Z", .methodLink RX9 190 yX9_putSign, .instanceMethod yX9_putSign, .selects RX9 yX9_putSign yX9_putSign, .initialized RX9, .code yX9_putSign cX9_putSign 2 none, .fieldLink RX9 187 "RoadDepotsModel" "signs" "I", .fieldLink RX9 23 "RoadDepotsModel" "answer" "[I", .methodLink RX9 194 yX9_putNumber, .instanceMethod yX9_putNumber, .selects RX9 yX9_putNumber yX9_putNumber, .code yX9_putNumber cX9_putNumber 3 none] ++ wsX90)
def wsX9_sayNear : List Cond := .code yX9_sayNear cX9_sayNear 2 none :: ([.fieldLink RX9 32 "RoadDepotsModel" "numbers" "[I", .methodLink RX9 121 yX9_nearestOf, .instanceMethod yX9_nearestOf, .selects RX9 yX9_nearestOf yX9_nearestOf, .initialized RX9, .code yX9_nearestOf cX9_nearestOf 4 (some .int), .fieldLink RX9 35 "RoadDepotsModel" "villages" "I", .fieldLink RX9 16 "RoadDepotsModel" "isOpen" "[Z", .methodLink RX9 99 yX9_farFrom, .instanceMethod yX9_farFrom, .selects RX9 yX9_farFrom yX9_farFrom, .code yX9_farFrom cX9_farFrom 6 (some .int), .fieldLink RX9 13 "RoadDepotsModel" "lengths" "[I", .fieldLink RX9 7 "RoadDepotsModel" "roots" "[I", .methodLink RX9 190 yX9_putSign, .instanceMethod yX9_putSign, .selects RX9 yX9_putSign yX9_putSign, .code yX9_putSign cX9_putSign 2 none, .fieldLink RX9 187 "RoadDepotsModel" "signs" "I", .fieldLink RX9 23 "RoadDepotsModel" "answer" "[I", .methodLink RX9 194 yX9_putNumber, .instanceMethod yX9_putNumber, .selects RX9 yX9_putNumber yX9_putNumber, .code yX9_putNumber cX9_putNumber 3 none] ++ wsX90)
def wsX9_say_r1 : List Cond := [Cond.fieldLink RX9 32 "RoadDepotsModel" "numbers" "[I", Cond.fieldLink RX9 169 "RoadDepotsModel" "word" "I", Cond.constant RX9 197 (508078), Cond.methodLink RX9 62 yX9_come, Cond.instanceMethod yX9_come, Cond.selects RX9 yX9_come yX9_come, Cond.initialized RX9, Cond.code yX9_come cX9_come 3 (some .int), Cond.fieldLink RX9 7 "RoadDepotsModel" "roots" "[I", Cond.fieldLink RX9 35 "RoadDepotsModel" "villages" "I", Cond.fieldLink RX9 13 "RoadDepotsModel" "lengths" "[I", Cond.fieldLink RX9 16 "RoadDepotsModel" "isOpen" "[Z", Cond.methodLink RX9 194 yX9_putNumber, Cond.instanceMethod yX9_putNumber, Cond.selects RX9 yX9_putNumber yX9_putNumber, Cond.code yX9_putNumber cX9_putNumber 3 none, Cond.methodLink RX9 190 yX9_putSign, Cond.instanceMethod yX9_putSign, Cond.selects RX9 yX9_putSign yX9_putSign, Cond.code yX9_putSign cX9_putSign 2 none, Cond.fieldLink RX9 187 "RoadDepotsModel" "signs" "I", Cond.fieldLink RX9 23 "RoadDepotsModel" "answer" "[I", Cond.methodLink RX9 66 yX9_becomes, Cond.instanceMethod yX9_becomes]
def wsX9_say_r2 : List Cond := [Cond.selects RX9 yX9_becomes yX9_becomes, Cond.code yX9_becomes cX9_becomes 4 (some .int), Cond.methodLink RX9 70 yX9_lengthen, Cond.instanceMethod yX9_lengthen, Cond.selects RX9 yX9_lengthen yX9_lengthen, Cond.code yX9_lengthen cX9_lengthen 4 (some .int), Cond.methodLink RX9 198 yX9_sayNear, Cond.instanceMethod yX9_sayNear, Cond.selects RX9 yX9_sayNear yX9_sayNear, Cond.code yX9_sayNear cX9_sayNear 2 none, Cond.methodLink RX9 121 yX9_nearestOf, Cond.instanceMethod yX9_nearestOf, Cond.selects RX9 yX9_nearestOf yX9_nearestOf, Cond.code yX9_nearestOf cX9_nearestOf 4 (some .int), Cond.methodLink RX9 99 yX9_farFrom, Cond.instanceMethod yX9_farFrom, Cond.selects RX9 yX9_farFrom yX9_farFrom, Cond.code yX9_farFrom cX9_farFrom 6 (some .int), Cond.methodLink RX9 201 yX9_sayWay, Cond.instanceMethod yX9_sayWay, Cond.selects RX9 yX9_sayWay yX9_sayWay, Cond.code yX9_sayWay cX9_sayWay 2 none, Cond.fieldLink RX9 102 "RoadDepotsModel" "wayMany" "I", Cond.fieldLink RX9 26 "RoadDepotsModel" "ways" "[I"]
def wsX9_say_r3 : List Cond := [Cond.methodLink RX9 105 yX9_findWay, Cond.instanceMethod yX9_findWay, Cond.selects RX9 yX9_findWay yX9_findWay, Cond.code yX9_findWay cX9_findWay 8 none, Cond.methodLink RX9 126 yX9_manyWithin, Cond.instanceMethod yX9_manyWithin, Cond.selects RX9 yX9_manyWithin yX9_manyWithin, Cond.code yX9_manyWithin cX9_manyWithin 5 (some .int), Cond.methodLink RX9 204 yX9_sayAll, Cond.instanceMethod yX9_sayAll, Cond.selects RX9 yX9_sayAll yX9_sayAll, Cond.code yX9_sayAll cX9_sayAll 3 none, Cond.methodLink RX9 129 yX9_sumOfOpen, Cond.instanceMethod yX9_sumOfOpen, Cond.selects RX9 yX9_sumOfOpen yX9_sumOfOpen, Cond.code yX9_sumOfOpen cX9_sumOfOpen 4 (some .int)]
def wsX9_say : List Cond := .code yX9_say cX9_say 3 none :: ((wsX9_say_r1 ++ (wsX9_say_r2 ++ wsX9_say_r3)) ++ wsX90)
def wsX9_says_r1 : List Cond := [Cond.fieldLink RX9 151 "RoadDepotsModel" "spot" "I", Cond.fieldLink RX9 35 "RoadDepotsModel" "villages" "I", Cond.fieldLink RX9 173 "RoadDepotsModel" "then" "I", Cond.fieldLink RX9 154 "RoadDepotsModel" "begins" "I", Cond.fieldLink RX9 187 "RoadDepotsModel" "signs" "I", Cond.methodLink RX9 207 yX9_isMore, Cond.instanceMethod yX9_isMore, Cond.selects RX9 yX9_isMore yX9_isMore, Cond.initialized RX9, Cond.code yX9_isMore cX9_isMore 2 (some .boolean), Cond.fieldLink RX9 140 "RoadDepotsModel" "length" "I", Cond.fieldLink RX9 20 "RoadDepotsModel" "text" "[I", Cond.methodLink RX9 211 yX9_isSentence, Cond.instanceMethod yX9_isSentence, Cond.selects RX9 yX9_isSentence yX9_isSentence, Cond.code yX9_isSentence cX9_isSentence 3 (some .boolean), Cond.fieldLink RX9 157 "RoadDepotsModel" "value" "I", Cond.fieldLink RX9 169 "RoadDepotsModel" "word" "I", Cond.fieldLink RX9 160 "RoadDepotsModel" "token" "I", Cond.fieldLink RX9 32 "RoadDepotsModel" "numbers" "[I", Cond.methodLink RX9 177 yX9_next, Cond.instanceMethod yX9_next, Cond.selects RX9 yX9_next yX9_next, Cond.code yX9_next cX9_next 3 none]
def wsX9_says_r2 : List Cond := [Cond.methodLink RX9 163 yX9_isLetter, Cond.static yX9_isLetter, Cond.code yX9_isLetter cX9_isLetter 1 (some .boolean), Cond.constantLong RX9 147 (97), Cond.constantLong RX9 149 (122), Cond.methodLink RX9 39 yX9_in, Cond.static yX9_in, Cond.code yX9_in cX9_in 6 (some .boolean), Cond.methodLink RX9 166 yX9_isFigure, Cond.static yX9_isFigure, Cond.code yX9_isFigure cX9_isFigure 1 (some .boolean), Cond.constantLong RX9 143 (48), Cond.constantLong RX9 145 (57), Cond.methodLink RX9 180 yX9_manyOf, Cond.static yX9_manyOf, Cond.code yX9_manyOf cX9_manyOf 1 (some .int), Cond.methodLink RX9 183 yX9_mayBe, Cond.instanceMethod yX9_mayBe, Cond.selects RX9 yX9_mayBe yX9_mayBe, Cond.code yX9_mayBe cX9_mayBe 3 (some .boolean), Cond.constant RX9 172 (605220), Cond.constantLong RX9 53 (99), Cond.constant RX9 176 (781852974), Cond.methodLink RX9 190 yX9_putSign]
def wsX9_says_r3 : List Cond := [Cond.instanceMethod yX9_putSign, Cond.selects RX9 yX9_putSign yX9_putSign, Cond.code yX9_putSign cX9_putSign 2 none, Cond.fieldLink RX9 23 "RoadDepotsModel" "answer" "[I", Cond.methodLink RX9 214 yX9_say, Cond.instanceMethod yX9_say, Cond.selects RX9 yX9_say yX9_say, Cond.code yX9_say cX9_say 3 none, Cond.constant RX9 197 (508078), Cond.methodLink RX9 62 yX9_come, Cond.instanceMethod yX9_come, Cond.selects RX9 yX9_come yX9_come, Cond.code yX9_come cX9_come 3 (some .int), Cond.fieldLink RX9 7 "RoadDepotsModel" "roots" "[I", Cond.fieldLink RX9 13 "RoadDepotsModel" "lengths" "[I", Cond.fieldLink RX9 16 "RoadDepotsModel" "isOpen" "[Z", Cond.methodLink RX9 194 yX9_putNumber, Cond.instanceMethod yX9_putNumber, Cond.selects RX9 yX9_putNumber yX9_putNumber, Cond.code yX9_putNumber cX9_putNumber 3 none, Cond.methodLink RX9 66 yX9_becomes, Cond.instanceMethod yX9_becomes, Cond.selects RX9 yX9_becomes yX9_becomes, Cond.code yX9_becomes cX9_becomes 4 (some .int)]
def wsX9_says_r4 : List Cond := [Cond.methodLink RX9 70 yX9_lengthen, Cond.instanceMethod yX9_lengthen, Cond.selects RX9 yX9_lengthen yX9_lengthen, Cond.code yX9_lengthen cX9_lengthen 4 (some .int), Cond.methodLink RX9 198 yX9_sayNear, Cond.instanceMethod yX9_sayNear, Cond.selects RX9 yX9_sayNear yX9_sayNear, Cond.code yX9_sayNear cX9_sayNear 2 none, Cond.methodLink RX9 121 yX9_nearestOf, Cond.instanceMethod yX9_nearestOf, Cond.selects RX9 yX9_nearestOf yX9_nearestOf, Cond.code yX9_nearestOf cX9_nearestOf 4 (some .int), Cond.methodLink RX9 99 yX9_farFrom, Cond.instanceMethod yX9_farFrom, Cond.selects RX9 yX9_farFrom yX9_farFrom, Cond.code yX9_farFrom cX9_farFrom 6 (some .int), Cond.methodLink RX9 201 yX9_sayWay, Cond.instanceMethod yX9_sayWay, Cond.selects RX9 yX9_sayWay yX9_sayWay, Cond.code yX9_sayWay cX9_sayWay 2 none, Cond.fieldLink RX9 102 "RoadDepotsModel" "wayMany" "I", Cond.fieldLink RX9 26 "RoadDepotsModel" "ways" "[I", Cond.methodLink RX9 105 yX9_findWay, Cond.instanceMethod yX9_findWay]
def wsX9_says_r5 : List Cond := [Cond.selects RX9 yX9_findWay yX9_findWay, Cond.code yX9_findWay cX9_findWay 8 none, Cond.methodLink RX9 126 yX9_manyWithin, Cond.instanceMethod yX9_manyWithin, Cond.selects RX9 yX9_manyWithin yX9_manyWithin, Cond.code yX9_manyWithin cX9_manyWithin 5 (some .int), Cond.methodLink RX9 204 yX9_sayAll, Cond.instanceMethod yX9_sayAll, Cond.selects RX9 yX9_sayAll yX9_sayAll, Cond.code yX9_sayAll cX9_sayAll 3 none, Cond.methodLink RX9 129 yX9_sumOfOpen, Cond.instanceMethod yX9_sumOfOpen, Cond.selects RX9 yX9_sumOfOpen yX9_sumOfOpen, Cond.code yX9_sumOfOpen cX9_sumOfOpen 4 (some .int)]
def wsX9_says : List Cond := .code yX9_says cX9_says 3 (some .int) :: ((wsX9_says_r1 ++ (wsX9_says_r2 ++ (wsX9_says_r3 ++ (wsX9_says_r4 ++ wsX9_says_r5)))) ++ wsX90)
def wsX9_answer : List Cond := .code yX9_answer cX9_answer 2 (some .int) :: ([.fieldLink RX9 187 "RoadDepotsModel" "signs" "I", .fieldLink RX9 23 "RoadDepotsModel" "answer" "[I", .methodLink RX9 55 yX9_refuse, .instanceMethod yX9_refuse, .selects RX9 yX9_refuse yX9_refuse, .initialized RX9, .code yX9_refuse cX9_refuse 1 (some .int), .fieldLink RX9 43 "RoadDepotsModel" "bad" "I"] ++ wsX90)
def wsX9_tell : List Cond := .code yX9_tell cX9_tell 2 (some .int) :: ([.fieldLink RX9 43 "RoadDepotsModel" "bad" "I", .fieldLink RX9 46 "RoadDepotsModel" "full" "I", .fieldLink RX9 140 "RoadDepotsModel" "length" "I", .fieldLink RX9 35 "RoadDepotsModel" "villages" "I", .fieldLink RX9 187 "RoadDepotsModel" "signs" "I", .methodLink RX9 217 yX9_openMany, .instanceMethod yX9_openMany, .selects RX9 yX9_openMany yX9_openMany, .initialized RX9, .code yX9_openMany cX9_openMany 3 (some .int), .fieldLink RX9 16 "RoadDepotsModel" "isOpen" "[Z"] ++ wsX90)
def wsX9_told : List Cond := .code yX9_told cX9_told 2 (some .int) :: ([.constantLong RX9 220 (6), .methodLink RX9 39 yX9_in, .static yX9_in, .initialized RX9, .code yX9_in cX9_in 6 (some .boolean), .methodLink RX9 222 yX9_tell, .instanceMethod yX9_tell, .selects RX9 yX9_tell yX9_tell, .code yX9_tell cX9_tell 2 (some .int), .fieldLink RX9 43 "RoadDepotsModel" "bad" "I", .fieldLink RX9 46 "RoadDepotsModel" "full" "I", .fieldLink RX9 140 "RoadDepotsModel" "length" "I", .fieldLink RX9 35 "RoadDepotsModel" "villages" "I", .fieldLink RX9 187 "RoadDepotsModel" "signs" "I", .methodLink RX9 217 yX9_openMany, .instanceMethod yX9_openMany, .selects RX9 yX9_openMany yX9_openMany, .code yX9_openMany cX9_openMany 3 (some .int), .fieldLink RX9 16 "RoadDepotsModel" "isOpen" "[Z", .methodLink RX9 55 yX9_refuse, .instanceMethod yX9_refuse, .selects RX9 yX9_refuse yX9_refuse, .code yX9_refuse cX9_refuse 1 (some .int)] ++ wsX90)
def wsX9_digest : List Cond := .code yX9_digest cX9_digest 5 (some .long) :: ([.constantLong RX9 225 (1997), .constantLong RX9 227 (31), .fieldLink RX9 35 "RoadDepotsModel" "villages" "I", .fieldLink RX9 187 "RoadDepotsModel" "signs" "I", .fieldLink RX9 23 "RoadDepotsModel" "answer" "[I", .methodLink RX9 222 yX9_tell, .instanceMethod yX9_tell, .selects RX9 yX9_tell yX9_tell, .initialized RX9, .code yX9_tell cX9_tell 2 (some .int), .fieldLink RX9 43 "RoadDepotsModel" "bad" "I", .fieldLink RX9 46 "RoadDepotsModel" "full" "I", .fieldLink RX9 140 "RoadDepotsModel" "length" "I", .methodLink RX9 217 yX9_openMany, .instanceMethod yX9_openMany, .selects RX9 yX9_openMany yX9_openMany, .code yX9_openMany cX9_openMany 3 (some .int), .fieldLink RX9 16 "RoadDepotsModel" "isOpen" "[Z", .methodLink RX9 96 yX9_partOf, .instanceMethod yX9_partOf, .selects RX9 yX9_partOf yX9_partOf, .code yX9_partOf cX9_partOf 3 (some .int), .fieldLink RX9 7 "RoadDepotsModel" "roots" "[I", .fieldLink RX9 13 "RoadDepotsModel" "lengths" "[I"] ++ wsX90)
def wsJ9_max_7cf53 : List Cond := .code yJ9_max_7cf53 cJ9_max_7cf53 2 (some .int) :: ([])
def wsJ9_min_7cf53 : List Cond := .code yJ9_min_7cf53 cJ9_min_7cf53 2 (some .int) :: ([])
def wsL_law_r1 : List Cond := [Cond.classLink RL 7 RX8, Cond.instantiable RX8 9, Cond.initialized RX8, Cond.classLink RL 10 RX9, Cond.instantiable RX9 22, Cond.initialized RX9, Cond.methodLink RL 9 yX8_init, Cond.instanceMethod yX8_init, Cond.code yX8_init cX8_init 1 none, Cond.methodLink RX8 3 objectInit, Cond.instanceMethod objectInit, Cond.code objectInit ⟨#[0xb1]⟩ 1 none, Cond.classLink RX8 9 RX1, Cond.instantiable RX1 6, Cond.initialized RX1, Cond.fieldLink RX8 12 "RoadDepots" "land" "LRoadDepots$Land;", Cond.classLink RX8 16 RX6, Cond.instantiable RX6 4, Cond.initialized RX6, Cond.fieldLink RX8 21 "RoadDepots" "ways" "LRoadDepots$Ways;", Cond.classLink RX8 25 RX0, Cond.instantiable RX0 2, Cond.initialized RX0, Cond.fieldLink RX8 28 "RoadDepots" "depots" "LRoadDepots$Depots;"]
def wsL_law_r2 : List Cond := [Cond.classLink RX8 32 RX5, Cond.instantiable RX5 2, Cond.initialized RX5, Cond.fieldLink RX8 35 "RoadDepots" "text" "LRoadDepots$Text;", Cond.classLink RX8 39 RX3, Cond.instantiable RX3 8, Cond.initialized RX3, Cond.fieldLink RX8 44 "RoadDepots" "reader" "LRoadDepots$Reader;", Cond.classLink RX8 48 RX2, Cond.instantiable RX2 2, Cond.initialized RX2, Cond.fieldLink RX8 51 "RoadDepots" "line" "LRoadDepots$Line;", Cond.classLink RX8 55 RX4, Cond.instantiable RX4 4, Cond.initialized RX4, Cond.fieldLink RX8 60 "RoadDepots" "teller" "LRoadDepots$Teller;", Cond.methodLink RX8 11 yX1_init, Cond.instanceMethod yX1_init, Cond.code yX1_init cX1_init 1 none, Cond.methodLink RX1 3 objectInit, Cond.arrayClass .int, Cond.fieldLink RX1 9 "RoadDepots$Land" "roots" "[I", Cond.fieldLink RX1 15 "RoadDepots$Land" "lengths" "[I", Cond.arrayClass .boolean]
def wsL_law_r3 : List Cond := [Cond.fieldLink RX1 18 "RoadDepots$Land" "open" "[Z", Cond.fieldLink RX1 22 "RoadDepots$Land" "gaps" "[I", Cond.methodLink RX1 25 yX1_empty, Cond.instanceMethod yX1_empty, Cond.selects RX1 yX1_empty yX1_empty, Cond.code yX1_empty cX1_empty 2 (some .int), Cond.fieldLink RX1 29 "RoadDepots$Land" "count" "I", Cond.fieldLink RX1 33 "RoadDepots$Land" "openCount" "I", Cond.methodLink RX8 18 yX6_init, Cond.instanceMethod yX6_init, Cond.code yX6_init cX6_init 2 none, Cond.methodLink RX6 3 objectInit, Cond.fieldLink RX6 9 "RoadDepots$Ways" "trail" "[I", Cond.fieldLink RX6 15 "RoadDepots$Ways" "weights" "[I", Cond.fieldLink RX6 18 "RoadDepots$Ways" "land" "LRoadDepots$Land;", Cond.methodLink RX8 27 yX0_init, Cond.instanceMethod yX0_init, Cond.code yX0_init cX0_init 2 none, Cond.methodLink RX0 3 objectInit, Cond.fieldLink RX0 9 "RoadDepots$Depots" "reaches" "[I", Cond.fieldLink RX0 15 "RoadDepots$Depots" "land" "LRoadDepots$Land;", Cond.methodLink RX8 34 yX5_init, Cond.instanceMethod yX5_init, Cond.code yX5_init cX5_init 1 none]
def wsL_law_r4 : List Cond := [Cond.methodLink RX5 3 objectInit, Cond.arrayClass .byte, Cond.fieldLink RX5 9 "RoadDepots$Text" "bytes" "[B", Cond.fieldLink RX5 15 "RoadDepots$Text" "size" "I", Cond.methodLink RX8 41 yX3_init, Cond.instanceMethod yX3_init, Cond.code yX3_init cX3_init 2 none, Cond.methodLink RX3 3 objectInit, Cond.fieldLink RX3 9 "RoadDepots$Reader" "words" "[I", Cond.fieldLink RX3 15 "RoadDepots$Reader" "firsts" "[I", Cond.fieldLink RX3 18 "RoadDepots$Reader" "seconds" "[I", Cond.fieldLink RX3 21 "RoadDepots$Reader" "text" "LRoadDepots$Text;", Cond.methodLink RX8 50 yX2_init, Cond.instanceMethod yX2_init, Cond.code yX2_init cX2_init 1 none, Cond.methodLink RX2 3 objectInit, Cond.fieldLink RX2 9 "RoadDepots$Line" "signs" "[B", Cond.fieldLink RX2 15 "RoadDepots$Line" "size" "I", Cond.methodLink RX8 57 yX4_init, Cond.instanceMethod yX4_init, Cond.code yX4_init cX4_init 5 none, Cond.methodLink RX4 3 objectInit, Cond.fieldLink RX4 9 "RoadDepots$Teller" "land" "LRoadDepots$Land;", Cond.fieldLink RX4 15 "RoadDepots$Teller" "ways" "LRoadDepots$Ways;"]
def wsL_law_r5 : List Cond := [Cond.fieldLink RX4 19 "RoadDepots$Teller" "depots" "LRoadDepots$Depots;", Cond.fieldLink RX4 23 "RoadDepots$Teller" "line" "LRoadDepots$Line;", Cond.methodLink RL 12 yX9_init, Cond.instanceMethod yX9_init, Cond.code yX9_init cX9_init 1 none, Cond.methodLink RX9 1 objectInit, Cond.fieldLink RX9 7 "RoadDepotsModel" "roots" "[I", Cond.fieldLink RX9 13 "RoadDepotsModel" "lengths" "[I", Cond.fieldLink RX9 16 "RoadDepotsModel" "isOpen" "[Z", Cond.fieldLink RX9 20 "RoadDepotsModel" "text" "[I", Cond.fieldLink RX9 23 "RoadDepotsModel" "answer" "[I", Cond.fieldLink RX9 26 "RoadDepotsModel" "ways" "[I", Cond.fieldLink RX9 29 "RoadDepotsModel" "sizes" "[I", Cond.fieldLink RX9 32 "RoadDepotsModel" "numbers" "[I", Cond.fieldLink RX9 35 "RoadDepotsModel" "villages" "I", Cond.methodLink RL 13 yX8_add, Cond.instanceMethod yX8_add, Cond.selects RX8 yX8_add yX8_add, Cond.code yX8_add cX8_add 3 (some .int), Cond.fieldLink RX8 75 "RoadDepots$Land" "count" "I", Cond.methodLink RX8 64 yX1_has, Cond.instanceMethod yX1_has, Cond.selects RX1 yX1_has yX1_has, Cond.code yX1_has cX1_has 2 (some .boolean)]
def wsL_law_r6 : List Cond := [Cond.methodLink RX8 68 yX8_isLength, Cond.static yX8_isLength, Cond.code yX8_isLength cX8_isLength 1 (some .boolean), Cond.methodLink RX8 71 yX8_refuseBad, Cond.instanceMethod yX8_refuseBad, Cond.selects RX8 yX8_refuseBad yX8_refuseBad, Cond.code yX8_refuseBad cX8_refuseBad 1 (some .int), Cond.fieldLink RX8 200 "RoadDepots" "badCalls" "I", Cond.methodLink RX8 79 yX8_refuseFull, Cond.instanceMethod yX8_refuseFull, Cond.selects RX8 yX8_refuseFull yX8_refuseFull, Cond.code yX8_refuseFull cX8_refuseFull 1 (some .int), Cond.fieldLink RX8 203 "RoadDepots" "fullCalls" "I", Cond.methodLink RX8 82 yX1_settle, Cond.instanceMethod yX1_settle, Cond.selects RX1 yX1_settle yX1_settle, Cond.code yX1_settle cX1_settle 4 (some .int), Cond.methodLink RX1 36 yX1_has, Cond.methodLink RX1 40 yX1_measure, Cond.instanceMethod yX1_measure, Cond.selects RX1 yX1_measure yX1_measure, Cond.code yX1_measure cX1_measure 5 none, Cond.methodLink RX1 72 yX1_gap, Cond.instanceMethod yX1_gap]
def wsL_law_r7 : List Cond := [Cond.selects RX1 yX1_gap yX1_gap, Cond.code yX1_gap cX1_gap 3 (some .int), Cond.methodLink RL 17 yX9_add, Cond.instanceMethod yX9_add, Cond.selects RX9 yX9_add yX9_add, Cond.code yX9_add cX9_add 3 (some .int), Cond.constantLong RX9 53 (99), Cond.methodLink RX9 49 yX9_isVillage, Cond.instanceMethod yX9_isVillage, Cond.selects RX9 yX9_isVillage yX9_isVillage, Cond.code yX9_isVillage cX9_isVillage 2 (some .boolean), Cond.methodLink RX9 39 yX9_in, Cond.static yX9_in, Cond.code yX9_in cX9_in 6 (some .boolean), Cond.methodLink RX9 55 yX9_refuse, Cond.instanceMethod yX9_refuse, Cond.selects RX9 yX9_refuse yX9_refuse, Cond.code yX9_refuse cX9_refuse 1 (some .int), Cond.fieldLink RX9 43 "RoadDepotsModel" "bad" "I", Cond.methodLink RX9 59 yX9_refuseFull, Cond.instanceMethod yX9_refuseFull, Cond.selects RX9 yX9_refuseFull yX9_refuseFull, Cond.code yX9_refuseFull cX9_refuseFull 1 (some .int), Cond.fieldLink RX9 46 "RoadDepotsModel" "full" "I"]
def wsL_law_r8 : List Cond := [Cond.methodLink RX9 62 yX9_come, Cond.instanceMethod yX9_come, Cond.selects RX9 yX9_come yX9_come, Cond.code yX9_come cX9_come 3 (some .int), Cond.methodLink RL 18 yX8_depot, Cond.instanceMethod yX8_depot, Cond.selects RX8 yX8_depot yX8_depot, Cond.code yX8_depot cX8_depot 3 (some .int), Cond.methodLink RX8 86 yX8_isUpTo, Cond.static yX8_isUpTo, Cond.code yX8_isUpTo cX8_isUpTo 2 (some .boolean), Cond.methodLink RX8 90 yX1_setDepot, Cond.instanceMethod yX1_setDepot, Cond.selects RX1 yX1_setDepot yX1_setDepot, Cond.code yX1_setDepot cX1_setDepot 3 (some .int), Cond.methodLink RL 21 yX9_depot, Cond.instanceMethod yX9_depot, Cond.selects RX9 yX9_depot yX9_depot, Cond.code yX9_depot cX9_depot 3 (some .int), Cond.methodLink RX9 66 yX9_becomes, Cond.instanceMethod yX9_becomes, Cond.selects RX9 yX9_becomes yX9_becomes, Cond.code yX9_becomes cX9_becomes 4 (some .int), Cond.methodLink RL 22 yX8_road]
def wsL_law_r9 : List Cond := [Cond.instanceMethod yX8_road, Cond.selects RX8 yX8_road yX8_road, Cond.code yX8_road cX8_road 3 (some .int), Cond.methodLink RX8 94 yX1_setRoad, Cond.instanceMethod yX1_setRoad, Cond.selects RX1 yX1_setRoad yX1_setRoad, Cond.code yX1_setRoad cX1_setRoad 5 (some .int), Cond.methodLink RL 25 yX9_road, Cond.instanceMethod yX9_road, Cond.selects RX9 yX9_road yX9_road, Cond.code yX9_road cX9_road 3 (some .int), Cond.methodLink RX9 70 yX9_lengthen, Cond.instanceMethod yX9_lengthen, Cond.selects RX9 yX9_lengthen yX9_lengthen, Cond.code yX9_lengthen cX9_lengthen 4 (some .int), Cond.methodLink RL 26 yX8_anew, Cond.instanceMethod yX8_anew, Cond.selects RX8 yX8_anew yX8_anew, Cond.code yX8_anew cX8_anew 1 (some .int), Cond.methodLink RX8 97 yX1_empty, Cond.methodLink RL 30 yX9_anew, Cond.instanceMethod yX9_anew, Cond.selects RX9 yX9_anew yX9_anew, Cond.code yX9_anew cX9_anew 2 (some .int)]
def wsL_law_r10 : List Cond := [Cond.methodLink RL 31 yX8_draw, Cond.instanceMethod yX8_draw, Cond.selects RX8 yX8_draw yX8_draw, Cond.code yX8_draw cX8_draw 3 (some .int), Cond.constant RX8 100 (999999), Cond.methodLink RX8 101 yX1_sow, Cond.instanceMethod yX1_sow, Cond.selects RX1 yX1_sow yX1_sow, Cond.code yX1_sow cX1_sow 7 (some .int), Cond.constantLong RX1 44 (1103515245), Cond.constantLong RX1 46 (12345), Cond.constantLong RX1 48 (2147483648), Cond.constantLong RX1 50 (65536), Cond.constantLong RX1 52 (1024), Cond.constantLong RX1 54 (99), Cond.constantLong RX1 60 (32768), Cond.constantLong RX1 62 (4), Cond.methodLink RX1 56 yX1_settle, Cond.methodLink RX1 64 yX1_setDepot, Cond.methodLink RL 34 yX9_draw, Cond.instanceMethod yX9_draw, Cond.selects RX9 yX9_draw yX9_draw, Cond.code yX9_draw cX9_draw 8 (some .int), Cond.constantLong RX9 73 (999999)]
def wsL_law_r11 : List Cond := [Cond.constantLong RX9 75 (59), Cond.constantLong RX9 80 (1103515245), Cond.constantLong RX9 82 (12345), Cond.constantLong RX9 84 (2147483648), Cond.constantLong RX9 86 (65536), Cond.constantLong RX9 88 (1024), Cond.constantLong RX9 90 (32768), Cond.constantLong RX9 92 (4), Cond.methodLink RX9 77 yX9_anew, Cond.methodLink RL 35 yX8_of, Cond.instanceMethod yX8_of, Cond.selects RX8 yX8_of yX8_of, Cond.code yX8_of cX8_of 3 (some .int), Cond.methodLink RX8 104 yX1_aspect, Cond.instanceMethod yX1_aspect, Cond.selects RX1 yX1_aspect yX1_aspect, Cond.code yX1_aspect cX1_aspect 3 (some .int), Cond.methodLink RX1 68 yX1_countRoads, Cond.instanceMethod yX1_countRoads, Cond.selects RX1 yX1_countRoads yX1_countRoads, Cond.code yX1_countRoads cX1_countRoads 4 (some .int), Cond.methodLink RL 38 yX9_of, Cond.instanceMethod yX9_of, Cond.selects RX9 yX9_of yX9_of]
def wsL_law_r12 : List Cond := [Cond.code yX9_of cX9_of 5 (some .int), Cond.constantLong RX9 94 (3), Cond.methodLink RX9 96 yX9_partOf, Cond.instanceMethod yX9_partOf, Cond.selects RX9 yX9_partOf yX9_partOf, Cond.code yX9_partOf cX9_partOf 3 (some .int), Cond.methodLink RL 39 yX8_far, Cond.instanceMethod yX8_far, Cond.selects RX8 yX8_far yX8_far, Cond.code yX8_far cX8_far 3 (some .int), Cond.methodLink RX8 107 yX1_gap, Cond.methodLink RL 42 yX9_far, Cond.instanceMethod yX9_far, Cond.selects RX9 yX9_far yX9_far, Cond.code yX9_far cX9_far 3 (some .int), Cond.methodLink RX9 99 yX9_farFrom, Cond.instanceMethod yX9_farFrom, Cond.selects RX9 yX9_farFrom yX9_farFrom, Cond.code yX9_farFrom cX9_farFrom 6 (some .int), Cond.methodLink RL 43 yX8_way, Cond.instanceMethod yX8_way, Cond.selects RX8 yX8_way yX8_way, Cond.code yX8_way cX8_way 4 (some .int), Cond.fieldLink RX8 117 "RoadDepots$Ways" "steps" "I"]
def wsL_law_r13 : List Cond := [Cond.fieldLink RX8 120 "RoadDepots$Ways" "trail" "[I", Cond.methodLink RX8 110 yX8_refuseBadPlace, Cond.instanceMethod yX8_refuseBadPlace, Cond.selects RX8 yX8_refuseBadPlace yX8_refuseBadPlace, Cond.code yX8_refuseBadPlace cX8_refuseBadPlace 1 (some .int), Cond.methodLink RX8 113 yX6_walk, Cond.instanceMethod yX6_walk, Cond.selects RX6 yX6_walk yX6_walk, Cond.code yX6_walk cX6_walk 8 none, Cond.fieldLink RX6 22 "RoadDepots$Land" "roots" "[I", Cond.fieldLink RX6 27 "RoadDepots$Ways" "steps" "I", Cond.methodLink RL 47 yX9_way, Cond.instanceMethod yX9_way, Cond.selects RX9 yX9_way yX9_way, Cond.code yX9_way cX9_way 4 (some .int), Cond.fieldLink RX9 102 "RoadDepotsModel" "wayMany" "I", Cond.methodLink RX9 105 yX9_findWay, Cond.instanceMethod yX9_findWay, Cond.selects RX9 yX9_findWay yX9_findWay, Cond.code yX9_findWay cX9_findWay 8 none, Cond.methodLink RL 48 yX8_longest, Cond.instanceMethod yX8_longest, Cond.selects RX8 yX8_longest yX8_longest, Cond.code yX8_longest cX8_longest 2 (some .int)]
def wsL_law_r14 : List Cond := [Cond.methodLink RX8 124 yX6_span, Cond.instanceMethod yX6_span, Cond.selects RX6 yX6_span yX6_span, Cond.code yX6_span cX6_span 7 (some .int), Cond.fieldLink RX6 31 "RoadDepots$Land" "count" "I", Cond.methodLink RX6 34 yX1_gap, Cond.methodLink RL 52 yX9_longest, Cond.instanceMethod yX9_longest, Cond.selects RX9 yX9_longest yX9_longest, Cond.code yX9_longest cX9_longest 6 (some .int), Cond.constantLong RX9 109 (2), Cond.methodLink RX9 111 yX9_farthest, Cond.instanceMethod yX9_farthest, Cond.selects RX9 yX9_farthest yX9_farthest, Cond.code yX9_farthest cX9_farthest 5 (some .int), Cond.methodLink RL 53 yX8_middle, Cond.instanceMethod yX8_middle, Cond.selects RX8 yX8_middle yX8_middle, Cond.code yX8_middle cX8_middle 2 (some .int), Cond.methodLink RX8 128 yX6_heart, Cond.instanceMethod yX6_heart, Cond.selects RX6 yX6_heart yX6_heart, Cond.code yX6_heart cX6_heart 6 (some .int), Cond.methodLink RX6 38 yX6_weigh]
def wsL_law_r15 : List Cond := [Cond.instanceMethod yX6_weigh, Cond.selects RX6 yX6_weigh yX6_weigh, Cond.code yX6_weigh cX6_weigh 2 none, Cond.methodLink RX6 41 yX6_burden, Cond.instanceMethod yX6_burden, Cond.selects RX6 yX6_burden yX6_burden, Cond.code yX6_burden cX6_burden 3 (some .int), Cond.methodLink RX6 44 yX6_farthest, Cond.instanceMethod yX6_farthest, Cond.selects RX6 yX6_farthest yX6_farthest, Cond.code yX6_farthest cX6_farthest 4 (some .int), Cond.methodLink RX6 54 Lib.Math.max.name, Cond.static Lib.Math.max.name, Cond.initialized "java/lang/Math", Cond.code Lib.Math.max.name Lib.Math.max.code 2 (some .int), Cond.methodLink RX6 48 yX6_distanceOfAll, Cond.instanceMethod yX6_distanceOfAll, Cond.selects RX6 yX6_distanceOfAll yX6_distanceOfAll, Cond.code yX6_distanceOfAll cX6_distanceOfAll 4 (some .int), Cond.methodLink RX6 51 yX6_greatestRest, Cond.instanceMethod yX6_greatestRest, Cond.selects RX6 yX6_greatestRest yX6_greatestRest, Cond.code yX6_greatestRest cX6_greatestRest 4 (some .int), Cond.methodLink RL 56 yX9_middle]
def wsL_law_r16 : List Cond := [Cond.instanceMethod yX9_middle, Cond.selects RX9 yX9_middle yX9_middle, Cond.code yX9_middle cX9_middle 6 (some .int), Cond.methodLink RX9 115 yX9_sumFrom, Cond.instanceMethod yX9_sumFrom, Cond.selects RX9 yX9_sumFrom yX9_sumFrom, Cond.code yX9_sumFrom cX9_sumFrom 4 (some .int), Cond.methodLink RX9 118 yX9_restOf, Cond.instanceMethod yX9_restOf, Cond.selects RX9 yX9_restOf yX9_restOf, Cond.code yX9_restOf cX9_restOf 4 (some .int), Cond.methodLink RL 57 yX8_nearest, Cond.instanceMethod yX8_nearest, Cond.selects RX8 yX8_nearest yX8_nearest, Cond.code yX8_nearest cX8_nearest 3 (some .int), Cond.methodLink RX8 131 yX0_closest, Cond.instanceMethod yX0_closest, Cond.selects RX0 yX0_closest yX0_closest, Cond.code yX0_closest cX0_closest 5 (some .int), Cond.constant RX0 19 (1000000), Cond.fieldLink RX0 20 "RoadDepots$Land" "count" "I", Cond.fieldLink RX0 26 "RoadDepots$Land" "open" "[Z", Cond.methodLink RX0 30 yX1_gap, Cond.methodLink RX8 134 yX8_whichOrFar]
def wsL_law_r17 : List Cond := [Cond.instanceMethod yX8_whichOrFar, Cond.selects RX8 yX8_whichOrFar yX8_whichOrFar, Cond.code yX8_whichOrFar cX8_whichOrFar 4 (some .int), Cond.methodLink RL 60 yX9_nearest, Cond.instanceMethod yX9_nearest, Cond.selects RX9 yX9_nearest yX9_nearest, Cond.code yX9_nearest cX9_nearest 4 (some .int), Cond.methodLink RX9 121 yX9_nearestOf, Cond.instanceMethod yX9_nearestOf, Cond.selects RX9 yX9_nearestOf yX9_nearestOf, Cond.code yX9_nearestOf cX9_nearestOf 4 (some .int), Cond.methodLink RL 61 yX8_turn, Cond.instanceMethod yX8_turn, Cond.selects RX8 yX8_turn yX8_turn, Cond.code yX8_turn cX8_turn 4 (some .int), Cond.methodLink RX8 138 yX0_ranked, Cond.instanceMethod yX0_ranked, Cond.selects RX0 yX0_ranked yX0_ranked, Cond.code yX0_ranked cX0_ranked 4 (some .int), Cond.methodLink RX0 34 yX0_countBefore, Cond.instanceMethod yX0_countBefore, Cond.selects RX0 yX0_countBefore yX0_countBefore, Cond.code yX0_countBefore cX0_countBefore 7 (some .int), Cond.methodLink RL 64 yX9_turn]
def wsL_law_r18 : List Cond := [Cond.instanceMethod yX9_turn, Cond.selects RX9 yX9_turn yX9_turn, Cond.code yX9_turn cX9_turn 8 (some .int), Cond.methodLink RL 65 yX8_within, Cond.instanceMethod yX8_within, Cond.selects RX8 yX8_within yX8_within, Cond.code yX8_within cX8_within 3 (some .int), Cond.methodLink RX8 141 yX0_countWithin, Cond.instanceMethod yX0_countWithin, Cond.selects RX0 yX0_countWithin yX0_countWithin, Cond.code yX0_countWithin cX0_countWithin 5 (some .int), Cond.methodLink RL 68 yX9_within, Cond.instanceMethod yX9_within, Cond.selects RX9 yX9_within yX9_within, Cond.code yX9_within cX9_within 3 (some .int), Cond.constantLong RX9 124 (6000), Cond.methodLink RX9 126 yX9_manyWithin, Cond.instanceMethod yX9_manyWithin, Cond.selects RX9 yX9_manyWithin yX9_manyWithin, Cond.code yX9_manyWithin cX9_manyWithin 5 (some .int), Cond.methodLink RL 69 yX8_sum, Cond.instanceMethod yX8_sum, Cond.selects RX8 yX8_sum yX8_sum, Cond.code yX8_sum cX8_sum 2 (some .int)]
def wsL_law_r19 : List Cond := [Cond.methodLink RX8 144 yX0_total, Cond.instanceMethod yX0_total, Cond.selects RX0 yX0_total yX0_total, Cond.code yX0_total cX0_total 4 (some .int), Cond.methodLink RL 72 yX9_sum, Cond.instanceMethod yX9_sum, Cond.selects RX9 yX9_sum yX9_sum, Cond.code yX9_sum cX9_sum 2 (some .int), Cond.methodLink RX9 129 yX9_sumOfOpen, Cond.instanceMethod yX9_sumOfOpen, Cond.selects RX9 yX9_sumOfOpen yX9_sumOfOpen, Cond.code yX9_sumOfOpen cX9_sumOfOpen 4 (some .int), Cond.methodLink RL 73 yX8_left, Cond.instanceMethod yX8_left, Cond.selects RX8 yX8_left yX8_left, Cond.code yX8_left cX8_left 2 (some .int), Cond.methodLink RX8 147 yX0_remotest, Cond.instanceMethod yX0_remotest, Cond.selects RX0 yX0_remotest yX0_remotest, Cond.code yX0_remotest cX0_remotest 5 (some .int), Cond.fieldLink RX0 37 "RoadDepots$Land" "openCount" "I", Cond.methodLink RX0 40 yX0_findReaches, Cond.instanceMethod yX0_findReaches, Cond.selects RX0 yX0_findReaches yX0_findReaches]
def wsL_law_r20 : List Cond := [Cond.code yX0_findReaches cX0_findReaches 3 none, Cond.methodLink RX0 47 yX0_closest, Cond.methodLink RL 76 yX9_left, Cond.instanceMethod yX9_left, Cond.selects RX9 yX9_left yX9_left, Cond.code yX9_left cX9_left 3 (some .int), Cond.fieldLink RX9 132 "RoadDepotsModel" "leftVillage" "I", Cond.methodLink RX9 135 yX9_findLeft, Cond.instanceMethod yX9_findLeft, Cond.selects RX9 yX9_findLeft yX9_findLeft, Cond.code yX9_findLeft cX9_findLeft 5 (some .int), Cond.methodLink RL 77 yX8_more, Cond.instanceMethod yX8_more, Cond.selects RX8 yX8_more yX8_more, Cond.code yX8_more cX8_more 2 (some .int), Cond.methodLink RX8 150 yX0_bestNew, Cond.instanceMethod yX0_bestNew, Cond.selects RX0 yX0_bestNew yX0_bestNew, Cond.code yX0_bestNew cX0_bestNew 6 (some .int), Cond.methodLink RX0 43 yX0_leftWith, Cond.instanceMethod yX0_leftWith, Cond.selects RX0 yX0_leftWith yX0_leftWith, Cond.code yX0_leftWith cX0_leftWith 4 (some .int), Cond.methodLink RX0 50 Lib.Math.min.name]
def wsL_law_r21 : List Cond := [Cond.static Lib.Math.min.name, Cond.code Lib.Math.min.name Lib.Math.min.code 2 (some .int), Cond.methodLink RX0 55 Lib.Math.max.name, Cond.methodLink RL 80 yX9_more, Cond.instanceMethod yX9_more, Cond.selects RX9 yX9_more yX9_more, Cond.code yX9_more cX9_more 6 (some .int), Cond.methodLink RL 81 yX8_serves, Cond.instanceMethod yX8_serves, Cond.selects RX8 yX8_serves yX8_serves, Cond.code yX8_serves cX8_serves 2 (some .int), Cond.methodLink RX8 153 yX0_countServed, Cond.instanceMethod yX0_countServed, Cond.selects RX0 yX0_countServed yX0_countServed, Cond.code yX0_countServed cX0_countServed 4 (some .int), Cond.methodLink RL 84 yX9_serves, Cond.instanceMethod yX9_serves, Cond.selects RX9 yX9_serves yX9_serves, Cond.code yX9_serves cX9_serves 5 (some .int), Cond.methodLink RL 85 yX8_pair, Cond.instanceMethod yX8_pair, Cond.selects RX8 yX8_pair yX8_pair, Cond.code yX8_pair cX8_pair 2 (some .int), Cond.methodLink RX8 156 yX0_closestTwo]
def wsL_law_r22 : List Cond := [Cond.instanceMethod yX0_closestTwo, Cond.selects RX0 yX0_closestTwo yX0_closestTwo, Cond.code yX0_closestTwo cX0_closestTwo 7 (some .int), Cond.methodLink RL 88 yX9_pair, Cond.instanceMethod yX9_pair, Cond.selects RX9 yX9_pair yX9_pair, Cond.code yX9_pair cX9_pair 7 (some .int), Cond.methodLink RL 89 yX8_type, Cond.instanceMethod yX8_type, Cond.selects RX8 yX8_type yX8_type, Cond.code yX8_type cX8_type 2 (some .int), Cond.fieldLink RX8 159 "RoadDepots$Text" "size" "I", Cond.methodLink RX8 162 yX5_put, Cond.instanceMethod yX5_put, Cond.selects RX5 yX5_put yX5_put, Cond.code yX5_put cX5_put 2 (some .int), Cond.methodLink RL 92 yX9_type, Cond.instanceMethod yX9_type, Cond.selects RX9 yX9_type yX9_type, Cond.code yX9_type cX9_type 2 (some .int), Cond.constantLong RX9 138 (127), Cond.fieldLink RX9 140 "RoadDepotsModel" "length" "I", Cond.methodLink RL 93 yX8_clear, Cond.instanceMethod yX8_clear]
def wsL_law_r23 : List Cond := [Cond.selects RX8 yX8_clear yX8_clear, Cond.code yX8_clear cX8_clear 1 (some .int), Cond.methodLink RX8 165 yX5_empty, Cond.instanceMethod yX5_empty, Cond.selects RX5 yX5_empty yX5_empty, Cond.code yX5_empty cX5_empty 2 (some .int), Cond.methodLink RL 96 yX9_clear, Cond.instanceMethod yX9_clear, Cond.selects RX9 yX9_clear yX9_clear, Cond.code yX9_clear cX9_clear 2 (some .int), Cond.methodLink RL 97 yX8_says, Cond.instanceMethod yX8_says, Cond.selects RX8 yX8_says yX8_says, Cond.code yX8_says cX8_says 3 (some .int), Cond.fieldLink RX8 171 "RoadDepots$Reader" "count" "I", Cond.fieldLink RX8 175 "RoadDepots$Reader" "words" "[I", Cond.fieldLink RX8 178 "RoadDepots$Reader" "firsts" "[I", Cond.fieldLink RX8 181 "RoadDepots$Reader" "seconds" "[I", Cond.methodLink RX8 166 yX3_read, Cond.instanceMethod yX3_read, Cond.selects RX3 yX3_read yX3_read, Cond.code yX3_read cX3_read 3 (some .int), Cond.fieldLink RX3 25 "RoadDepots$Reader" "count" "I", Cond.fieldLink RX3 29 "RoadDepots$Reader" "place" "I"]
def wsL_law_r24 : List Cond := [Cond.fieldLink RX3 32 "RoadDepots$Reader" "fault" "I", Cond.fieldLink RX3 35 "RoadDepots$Reader" "villages" "I", Cond.fieldLink RX3 38 "RoadDepots$Text" "size" "I", Cond.methodLink RX3 43 yX3_readSentence, Cond.instanceMethod yX3_readSentence, Cond.selects RX3 yX3_readSentence yX3_readSentence, Cond.code yX3_readSentence cX3_readSentence 4 none, Cond.methodLink RX3 49 yX3_readWord, Cond.instanceMethod yX3_readWord, Cond.selects RX3 yX3_readWord yX3_readWord, Cond.code yX3_readWord cX3_readWord 3 (some .int), Cond.methodLink RX3 46 yX3_skipBlanks, Cond.instanceMethod yX3_skipBlanks, Cond.selects RX3 yX3_skipBlanks yX3_skipBlanks, Cond.code yX3_skipBlanks cX3_skipBlanks 1 none, Cond.methodLink RX3 83 yX5_byteAt, Cond.instanceMethod yX5_byteAt, Cond.selects RX5 yX5_byteAt yX5_byteAt, Cond.code yX5_byteAt cX5_byteAt 2 (some .int), Cond.methodLink RX3 72 yX5_isLetter, Cond.instanceMethod yX5_isLetter, Cond.selects RX5 yX5_isLetter yX5_isLetter, Cond.code yX5_isLetter cX5_isLetter 3 (some .boolean), Cond.methodLink RX5 19 yX5_byteAt]
def wsL_law_r25 : List Cond := [Cond.methodLink RX3 76 yX7_find, Cond.static yX7_find, Cond.initialized RX7, Cond.code yX7_find cX7_find 4 (some .int), Cond.methodLink RX7 11 yX7_spelling, Cond.static yX7_spelling, Cond.code yX7_spelling cX7_spelling 1 (some (.object "java/lang/String")), Cond.methodLink RX7 15 yX5_isWord, Cond.instanceMethod yX5_isWord, Cond.selects RX5 yX5_isWord yX5_isWord, Cond.code yX5_isWord cX5_isWord 5 (some .boolean), Cond.methodLink RX5 23 yJ0_length_8abf5, Cond.instanceMethod yJ0_length_8abf5, Cond.selects RJ0 yJ0_length_8abf5 yJ0_length_8abf5, Cond.initialized RJ0, Cond.code yJ0_length_8abf5 cJ0_length_8abf5 1 (some .int), Cond.fieldLink RJ0 9 "java/lang/String" "value" "[B", Cond.methodLink RJ0 335 yJ0_coder_7d493, Cond.instanceMethod yJ0_coder_7d493, Cond.selects RJ0 yJ0_coder_7d493 yJ0_coder_7d493, Cond.code yJ0_coder_7d493 cJ0_coder_7d493 1 (some .byte), Cond.fieldLink RJ0 38 "java/lang/String" "COMPACT_STRINGS" "Z", Cond.fieldLink RJ0 15 "java/lang/String" "coder" "B", Cond.methodLink RX5 29 yJ0_charAt_5068e]
def wsL_law_r26 : List Cond := [Cond.instanceMethod yJ0_charAt_5068e, Cond.selects RJ0 yJ0_charAt_5068e yJ0_charAt_5068e, Cond.code yJ0_charAt_5068e cJ0_charAt_5068e 2 (some .char), Cond.methodLink RJ0 492 yJ0_isLatin1_aae02, Cond.instanceMethod yJ0_isLatin1_aae02, Cond.selects RJ0 yJ0_isLatin1_aae02 yJ0_isLatin1_aae02, Cond.code yJ0_isLatin1_aae02 cJ0_isLatin1_aae02 1 (some .boolean), Cond.methodLink RJ0 495 yJ1_charAt_3b067, Cond.static yJ1_charAt_3b067, Cond.initialized RJ1, Cond.code yJ1_charAt_3b067 cJ1_charAt_3b067 2 (some .char), Cond.methodLink RJ1 9 yJ0_checkIndex_df160, Cond.static yJ0_checkIndex_df160, Cond.code yJ0_checkIndex_df160 cJ0_checkIndex_df160 2 none, Cond.fieldLink RJ0 1053 "jdk/internal/util/Preconditions" "SIOOBE_FORMATTER" "Ljava/util/function/BiFunction;", Cond.methodLink RJ0 1059 yJ3_checkIndex_8e157, Cond.static yJ3_checkIndex_8e157, Cond.initialized RJ3, Cond.code yJ3_checkIndex_8e157 cJ3_checkIndex_8e157 3 (some .int), Cond.methodLink RJ0 498 yJ2_charAt_3b067, Cond.static yJ2_charAt_3b067, Cond.initialized RJ2, Cond.code yJ2_charAt_3b067 cJ2_charAt_3b067 2 (some .char), Cond.methodLink RJ2 67 yJ2_checkIndex_2214a]
def wsL_law_r27 : List Cond := [Cond.static yJ2_checkIndex_2214a, Cond.code yJ2_checkIndex_2214a cJ2_checkIndex_2214a 2 none, Cond.methodLink RJ2 48 yJ2_length_9d52b, Cond.static yJ2_length_9d52b, Cond.code yJ2_length_9d52b cJ2_length_9d52b 1 (some .int), Cond.methodLink RJ2 414 yJ0_checkIndex_df160, Cond.methodLink RJ2 71 yJ2_getChar_3b067, Cond.static yJ2_getChar_3b067, Cond.code yJ2_getChar_3b067 cJ2_getChar_3b067 2 (some .char), Cond.fieldLink RJ2 44 "java/lang/StringUTF16" "$assertionsDisabled" "Z", Cond.fieldLink RJ2 59 "java/lang/StringUTF16" "HI_BYTE_SHIFT" "I", Cond.fieldLink RJ2 63 "java/lang/StringUTF16" "LO_BYTE_SHIFT" "I", Cond.methodLink RX3 53 yX7_firstNeed, Cond.static yX7_firstNeed, Cond.code yX7_firstNeed cX7_firstNeed 1 (some .int), Cond.fieldLink RX7 21 "RoadDepots$Words" "FIRST" "[I", Cond.methodLink RX3 59 yX3_readNumber, Cond.instanceMethod yX3_readNumber, Cond.selects RX3 yX3_readNumber yX3_readNumber, Cond.code yX3_readNumber cX3_readNumber 5 (some .int), Cond.methodLink RX3 80 yX5_isFigure, Cond.instanceMethod yX5_isFigure, Cond.selects RX5 yX5_isFigure yX5_isFigure, Cond.code yX5_isFigure cX5_isFigure 3 (some .boolean)]
def wsL_law_r28 : List Cond := [Cond.methodLink RX3 86 yX7_suits, Cond.static yX7_suits, Cond.code yX7_suits cX7_suits 3 (some .boolean), Cond.methodLink RX3 62 yX7_secondNeed, Cond.static yX7_secondNeed, Cond.code yX7_secondNeed cX7_secondNeed 1 (some .int), Cond.fieldLink RX7 25 "RoadDepots$Words" "SECOND" "[I", Cond.methodLink RX3 65 yX3_readEnd, Cond.instanceMethod yX3_readEnd, Cond.selects RX3 yX3_readEnd yX3_readEnd, Cond.code yX3_readEnd cX3_readEnd 1 none, Cond.methodLink RX3 68 yX3_keep, Cond.instanceMethod yX3_keep, Cond.selects RX3 yX3_keep yX3_keep, Cond.code yX3_keep cX3_keep 4 none, Cond.methodLink RX8 169 yX2_empty, Cond.instanceMethod yX2_empty, Cond.selects RX2 yX2_empty yX2_empty, Cond.code yX2_empty cX2_empty 1 none, Cond.methodLink RX8 172 yX2_put, Cond.instanceMethod yX2_put, Cond.selects RX2 yX2_put yX2_put, Cond.code yX2_put cX2_put 2 none, Cond.methodLink RX8 184 yX4_tell]
def wsL_law_r29 : List Cond := [Cond.instanceMethod yX4_tell, Cond.selects RX4 yX4_tell yX4_tell, Cond.code yX4_tell cX4_tell 4 none, Cond.methodLink RX4 27 yX1_settle, Cond.methodLink RX4 33 yX2_putNumber, Cond.instanceMethod yX2_putNumber, Cond.selects RX2 yX2_putNumber yX2_putNumber, Cond.code yX2_putNumber cX2_putNumber 4 none, Cond.methodLink RX2 19 yX2_put, Cond.methodLink RX4 39 yX1_setDepot, Cond.methodLink RX4 43 yX1_setRoad, Cond.methodLink RX4 46 yX4_tellNearest, Cond.instanceMethod yX4_tellNearest, Cond.selects RX4 yX4_tellNearest yX4_tellNearest, Cond.code yX4_tellNearest cX4_tellNearest 3 none, Cond.methodLink RX4 68 yX0_closest, Cond.methodLink RX4 71 yX2_put, Cond.methodLink RX4 49 yX1_gap, Cond.methodLink RX4 52 yX4_tellWay, Cond.instanceMethod yX4_tellWay, Cond.selects RX4 yX4_tellWay yX4_tellWay, Cond.code yX4_tellWay cX4_tellWay 4 none, Cond.fieldLink RX4 79 "RoadDepots$Ways" "steps" "I", Cond.fieldLink RX4 83 "RoadDepots$Ways" "trail" "[I"]
def wsL_law_r30 : List Cond := [Cond.methodLink RX4 74 yX6_walk, Cond.methodLink RX4 56 yX0_countWithin, Cond.methodLink RX4 61 yX4_tellAll, Cond.instanceMethod yX4_tellAll, Cond.selects RX4 yX4_tellAll yX4_tellAll, Cond.code yX4_tellAll cX4_tellAll 3 none, Cond.fieldLink RX4 87 "RoadDepots$Land" "openCount" "I", Cond.fieldLink RX4 90 "RoadDepots$Land" "count" "I", Cond.fieldLink RX4 93 "RoadDepots$Land" "open" "[Z", Cond.methodLink RX4 64 yX0_total, Cond.methodLink RL 100 yX9_says, Cond.instanceMethod yX9_says, Cond.selects RX9 yX9_says yX9_says, Cond.code yX9_says cX9_says 3 (some .int), Cond.fieldLink RX9 151 "RoadDepotsModel" "spot" "I", Cond.fieldLink RX9 173 "RoadDepotsModel" "then" "I", Cond.fieldLink RX9 154 "RoadDepotsModel" "begins" "I", Cond.fieldLink RX9 187 "RoadDepotsModel" "signs" "I", Cond.methodLink RX9 207 yX9_isMore, Cond.instanceMethod yX9_isMore, Cond.selects RX9 yX9_isMore yX9_isMore, Cond.code yX9_isMore cX9_isMore 2 (some .boolean), Cond.methodLink RX9 211 yX9_isSentence, Cond.instanceMethod yX9_isSentence]
def wsL_law_r31 : List Cond := [Cond.selects RX9 yX9_isSentence yX9_isSentence, Cond.code yX9_isSentence cX9_isSentence 3 (some .boolean), Cond.fieldLink RX9 157 "RoadDepotsModel" "value" "I", Cond.fieldLink RX9 169 "RoadDepotsModel" "word" "I", Cond.fieldLink RX9 160 "RoadDepotsModel" "token" "I", Cond.methodLink RX9 177 yX9_next, Cond.instanceMethod yX9_next, Cond.selects RX9 yX9_next yX9_next, Cond.code yX9_next cX9_next 3 none, Cond.methodLink RX9 163 yX9_isLetter, Cond.static yX9_isLetter, Cond.code yX9_isLetter cX9_isLetter 1 (some .boolean), Cond.constantLong RX9 147 (97), Cond.constantLong RX9 149 (122), Cond.methodLink RX9 166 yX9_isFigure, Cond.static yX9_isFigure, Cond.code yX9_isFigure cX9_isFigure 1 (some .boolean), Cond.constantLong RX9 143 (48), Cond.constantLong RX9 145 (57), Cond.methodLink RX9 180 yX9_manyOf, Cond.static yX9_manyOf, Cond.code yX9_manyOf cX9_manyOf 1 (some .int), Cond.methodLink RX9 183 yX9_mayBe, Cond.instanceMethod yX9_mayBe]
def wsL_law_r32 : List Cond := [Cond.selects RX9 yX9_mayBe yX9_mayBe, Cond.code yX9_mayBe cX9_mayBe 3 (some .boolean), Cond.constant RX9 172 (605220), Cond.constant RX9 176 (781852974), Cond.methodLink RX9 190 yX9_putSign, Cond.instanceMethod yX9_putSign, Cond.selects RX9 yX9_putSign yX9_putSign, Cond.code yX9_putSign cX9_putSign 2 none, Cond.methodLink RX9 214 yX9_say, Cond.instanceMethod yX9_say, Cond.selects RX9 yX9_say yX9_say, Cond.code yX9_say cX9_say 3 none, Cond.constant RX9 197 (508078), Cond.methodLink RX9 194 yX9_putNumber, Cond.instanceMethod yX9_putNumber, Cond.selects RX9 yX9_putNumber yX9_putNumber, Cond.code yX9_putNumber cX9_putNumber 3 none, Cond.methodLink RX9 198 yX9_sayNear, Cond.instanceMethod yX9_sayNear, Cond.selects RX9 yX9_sayNear yX9_sayNear, Cond.code yX9_sayNear cX9_sayNear 2 none, Cond.methodLink RX9 201 yX9_sayWay, Cond.instanceMethod yX9_sayWay, Cond.selects RX9 yX9_sayWay yX9_sayWay]
def wsL_law_r33 : List Cond := [Cond.code yX9_sayWay cX9_sayWay 2 none, Cond.methodLink RX9 204 yX9_sayAll, Cond.instanceMethod yX9_sayAll, Cond.selects RX9 yX9_sayAll yX9_sayAll, Cond.code yX9_sayAll cX9_sayAll 3 none, Cond.methodLink RL 101 yX8_answer, Cond.instanceMethod yX8_answer, Cond.selects RX8 yX8_answer yX8_answer, Cond.code yX8_answer cX8_answer 2 (some .int), Cond.fieldLink RX8 188 "RoadDepots$Line" "size" "I", Cond.fieldLink RX8 189 "RoadDepots$Line" "signs" "[B", Cond.methodLink RL 104 yX9_answer, Cond.instanceMethod yX9_answer, Cond.selects RX9 yX9_answer yX9_answer, Cond.code yX9_answer cX9_answer 2 (some .int), Cond.methodLink RL 105 yX8_told, Cond.instanceMethod yX8_told, Cond.selects RX8 yX8_told yX8_told, Cond.code yX8_told cX8_told 2 (some .int), Cond.methodLink RX8 193 yX8_tally, Cond.instanceMethod yX8_tally, Cond.selects RX8 yX8_tally yX8_tally, Cond.code yX8_tally cX8_tally 2 (some .int), Cond.fieldLink RX8 206 "RoadDepots$Land" "openCount" "I"]
def wsL_law_r34 : List Cond := [Cond.methodLink RL 108 yX9_told, Cond.instanceMethod yX9_told, Cond.selects RX9 yX9_told yX9_told, Cond.code yX9_told cX9_told 2 (some .int), Cond.constantLong RX9 220 (6), Cond.methodLink RX9 222 yX9_tell, Cond.instanceMethod yX9_tell, Cond.selects RX9 yX9_tell yX9_tell, Cond.code yX9_tell cX9_tell 2 (some .int), Cond.methodLink RX9 217 yX9_openMany, Cond.instanceMethod yX9_openMany, Cond.selects RX9 yX9_openMany yX9_openMany, Cond.code yX9_openMany cX9_openMany 3 (some .int), Cond.methodLink RL 109 yX8_digest, Cond.instanceMethod yX8_digest, Cond.selects RX8 yX8_digest yX8_digest, Cond.code yX8_digest cX8_digest 5 (some .long), Cond.constantLong RX8 196 (1997), Cond.constantLong RX8 198 (31), Cond.methodLink RL 113 yX9_digest, Cond.instanceMethod yX9_digest, Cond.selects RX9 yX9_digest yX9_digest, Cond.code yX9_digest cX9_digest 5 (some .long), Cond.constantLong RX9 225 (1997)]
def wsL_law_r35 : List Cond := [Cond.constantLong RX9 227 (31)]
def wsL_law : List Cond := (wsL_law_r1 ++ (wsL_law_r2 ++ (wsL_law_r3 ++ (wsL_law_r4 ++ (wsL_law_r5 ++ (wsL_law_r6 ++ (wsL_law_r7 ++ (wsL_law_r8 ++ (wsL_law_r9 ++ (wsL_law_r10 ++ (wsL_law_r11 ++ (wsL_law_r12 ++ (wsL_law_r13 ++ (wsL_law_r14 ++ (wsL_law_r15 ++ (wsL_law_r16 ++ (wsL_law_r17 ++ (wsL_law_r18 ++ (wsL_law_r19 ++ (wsL_law_r20 ++ (wsL_law_r21 ++ (wsL_law_r22 ++ (wsL_law_r23 ++ (wsL_law_r24 ++ (wsL_law_r25 ++ (wsL_law_r26 ++ (wsL_law_r27 ++ (wsL_law_r28 ++ (wsL_law_r29 ++ (wsL_law_r30 ++ (wsL_law_r31 ++ (wsL_law_r32 ++ (wsL_law_r33 ++ (wsL_law_r34 ++ wsL_law_r35)))))))))))))))))))))))))))))))))) ++ wsX80 ++ wsX90 ++ wsX10 ++ wsX60 ++ wsX00 ++ wsX50 ++ wsX30 ++ wsX20 ++ wsX40 ++ ([] : List Cond)
abbrev vwCl : List vw_C := [(RX0, TX0, 2), (RX1, TX1, 6), (RX2, TX2, 2), (RX3, TX3, 8), (RX4, TX4, 4), (RX5, TX5, 2), (RX6, TX6, 4), (RX8, TX8, 9), (RX9, TX9, 22)]
end
section
theorem dX0_init_0 : decode cX0_init 0 = .ok (.aload_n 0, 1) := by decide +kernel
theorem dX0_init_1 : decode cX0_init 1 = .ok (.invokespecial 3, 3) := by decide +kernel
theorem dX0_init_4 : decode cX0_init 4 = .ok (.aload_n 0, 1) := by decide +kernel
theorem dX0_init_5 : decode cX0_init 5 = .ok (.bipush 60, 2) := by decide +kernel
theorem dX0_init_7 : decode cX0_init 7 = .ok (.newarray .int, 2) := by decide +kernel
theorem dX0_init_9 : decode cX0_init 9 = .ok (.putfield 9, 3) := by decide +kernel
theorem dX0_init_12 : decode cX0_init 12 = .ok (.aload_n 0, 1) := by decide +kernel
theorem dX0_init_13 : decode cX0_init 13 = .ok (.aload_n 1, 1) := by decide +kernel
theorem dX0_init_14 : decode cX0_init 14 = .ok (.putfield 15, 3) := by decide +kernel
theorem dX0_init_17 : decode cX0_init 17 = .ok (.return_, 1) := by decide +kernel
set_option maxRecDepth 20000 in
theorem ggX0_closest_X1_gap : GoodIn wsX0_closest wsX1_gap := goodIn_r _ [9, 10, 13, 14, 15, 16, 17, 18] (by decide +kernel) (by decide +kernel)
set_option maxRecDepth 20000 in
theorem gX0_closest_X1_gap : GoodIn wsX0_closest (wsV RX0 30 RX1 yX1_gap wsX1_gap) := goodIn_app (goodIn_of _ (by decide +kernel)) ggX0_closest_X1_gap
theorem dX0_closest_0 : decode cX0_closest 0 = .ok (.iconst (-1), 1) := by decide +kernel
theorem dX0_closest_1 : decode cX0_closest 1 = .ok (.istore_n 2, 1) := by decide +kernel
theorem dX0_closest_2 : decode cX0_closest 2 = .ok (.ldc 19, 2) := by decide +kernel
theorem dX0_closest_4 : decode cX0_closest 4 = .ok (.istore_n 3, 1) := by decide +kernel
theorem dX0_closest_5 : decode cX0_closest 5 = .ok (.iconst 0, 1) := by decide +kernel
theorem dX0_closest_6 : decode cX0_closest 6 = .ok (.istore 4, 2) := by decide +kernel
theorem dX0_closest_8 : decode cX0_closest 8 = .ok (.iload 4, 2) := by decide +kernel
theorem dX0_closest_10 : decode cX0_closest 10 = .ok (.aload_n 0, 1) := by decide +kernel
theorem dX0_closest_11 : decode cX0_closest 11 = .ok (.getfield 15, 3) := by decide +kernel
theorem dX0_closest_14 : decode cX0_closest 14 = .ok (.getfield 20, 3) := by decide +kernel
theorem dX0_closest_17 : decode cX0_closest 17 = .ok (.if_icmp .ge 50, 3) := by decide +kernel
theorem dX0_closest_20 : decode cX0_closest 20 = .ok (.aload_n 0, 1) := by decide +kernel
theorem dX0_closest_21 : decode cX0_closest 21 = .ok (.getfield 15, 3) := by decide +kernel
theorem dX0_closest_24 : decode cX0_closest 24 = .ok (.getfield 26, 3) := by decide +kernel
theorem dX0_closest_27 : decode cX0_closest 27 = .ok (.iload 4, 2) := by decide +kernel
theorem dX0_closest_29 : decode cX0_closest 29 = .ok (.baload, 1) := by decide +kernel
theorem dX0_closest_30 : decode cX0_closest 30 = .ok (.ifCond .eq 31, 3) := by decide +kernel
theorem dX0_closest_33 : decode cX0_closest 33 = .ok (.aload_n 0, 1) := by decide +kernel
theorem dX0_closest_34 : decode cX0_closest 34 = .ok (.getfield 15, 3) := by decide +kernel
theorem dX0_closest_37 : decode cX0_closest 37 = .ok (.iload_n 1, 1) := by decide +kernel
theorem dX0_closest_38 : decode cX0_closest 38 = .ok (.iload 4, 2) := by decide +kernel
theorem dX0_closest_40 : decode cX0_closest 40 = .ok (.invokevirtual 30, 3) := by decide +kernel
theorem dX0_closest_43 : decode cX0_closest 43 = .ok (.iload_n 3, 1) := by decide +kernel
theorem dX0_closest_44 : decode cX0_closest 44 = .ok (.if_icmp .ge 17, 3) := by decide +kernel
theorem dX0_closest_47 : decode cX0_closest 47 = .ok (.aload_n 0, 1) := by decide +kernel
theorem dX0_closest_48 : decode cX0_closest 48 = .ok (.getfield 15, 3) := by decide +kernel
theorem dX0_closest_51 : decode cX0_closest 51 = .ok (.iload_n 1, 1) := by decide +kernel
theorem dX0_closest_52 : decode cX0_closest 52 = .ok (.iload 4, 2) := by decide +kernel
theorem dX0_closest_54 : decode cX0_closest 54 = .ok (.invokevirtual 30, 3) := by decide +kernel
theorem dX0_closest_57 : decode cX0_closest 57 = .ok (.istore_n 3, 1) := by decide +kernel
theorem dX0_closest_58 : decode cX0_closest 58 = .ok (.iload 4, 2) := by decide +kernel
theorem dX0_closest_60 : decode cX0_closest 60 = .ok (.istore_n 2, 1) := by decide +kernel
theorem dX0_closest_61 : decode cX0_closest 61 = .ok (.iinc 4 1, 3) := by decide +kernel
theorem dX0_closest_64 : decode cX0_closest 64 = .ok (.goto (-56), 3) := by decide +kernel
theorem dX0_closest_67 : decode cX0_closest 67 = .ok (.iload_n 2, 1) := by decide +kernel
theorem dX0_closest_68 : decode cX0_closest 68 = .ok (.ireturn, 1) := by decide +kernel
set_option maxRecDepth 20000 in
theorem ggX0_ranked_X0_countBefore : GoodIn wsX0_ranked wsX0_countBefore := goodIn_r _ [8, 1, 2, 3, 9, 10, 11, 12, 13, 14, 15, 16, 17, 18, 19, 20, 21, 22] (by decide +kernel) (by decide +kernel)
set_option maxRecDepth 20000 in
theorem gX0_ranked_X0_countBefore : GoodIn wsX0_ranked (wsV RX0 34 RX0 yX0_countBefore wsX0_countBefore) := goodIn_app (goodIn_of _ (by decide +kernel)) ggX0_ranked_X0_countBefore
theorem dX0_ranked_0 : decode cX0_ranked 0 = .ok (.iconst 0, 1) := by decide +kernel
theorem dX0_ranked_1 : decode cX0_ranked 1 = .ok (.istore_n 3, 1) := by decide +kernel
theorem dX0_ranked_2 : decode cX0_ranked 2 = .ok (.iload_n 3, 1) := by decide +kernel
theorem dX0_ranked_3 : decode cX0_ranked 3 = .ok (.aload_n 0, 1) := by decide +kernel
theorem dX0_ranked_4 : decode cX0_ranked 4 = .ok (.getfield 15, 3) := by decide +kernel
theorem dX0_ranked_7 : decode cX0_ranked 7 = .ok (.getfield 20, 3) := by decide +kernel
theorem dX0_ranked_10 : decode cX0_ranked 10 = .ok (.if_icmp .ge 33, 3) := by decide +kernel
theorem dX0_ranked_13 : decode cX0_ranked 13 = .ok (.aload_n 0, 1) := by decide +kernel
theorem dX0_ranked_14 : decode cX0_ranked 14 = .ok (.getfield 15, 3) := by decide +kernel
theorem dX0_ranked_17 : decode cX0_ranked 17 = .ok (.getfield 26, 3) := by decide +kernel
theorem dX0_ranked_20 : decode cX0_ranked 20 = .ok (.iload_n 3, 1) := by decide +kernel
theorem dX0_ranked_21 : decode cX0_ranked 21 = .ok (.baload, 1) := by decide +kernel
theorem dX0_ranked_22 : decode cX0_ranked 22 = .ok (.ifCond .eq 15, 3) := by decide +kernel
theorem dX0_ranked_25 : decode cX0_ranked 25 = .ok (.aload_n 0, 1) := by decide +kernel
theorem dX0_ranked_26 : decode cX0_ranked 26 = .ok (.iload_n 1, 1) := by decide +kernel
theorem dX0_ranked_27 : decode cX0_ranked 27 = .ok (.iload_n 3, 1) := by decide +kernel
theorem dX0_ranked_28 : decode cX0_ranked 28 = .ok (.invokevirtual 34, 3) := by decide +kernel
theorem dX0_ranked_31 : decode cX0_ranked 31 = .ok (.iload_n 2, 1) := by decide +kernel
theorem dX0_ranked_32 : decode cX0_ranked 32 = .ok (.if_icmp .ne 5, 3) := by decide +kernel
theorem dX0_ranked_35 : decode cX0_ranked 35 = .ok (.iload_n 3, 1) := by decide +kernel
theorem dX0_ranked_36 : decode cX0_ranked 36 = .ok (.ireturn, 1) := by decide +kernel
theorem dX0_ranked_37 : decode cX0_ranked 37 = .ok (.iinc 3 1, 3) := by decide +kernel
theorem dX0_ranked_40 : decode cX0_ranked 40 = .ok (.goto (-38), 3) := by decide +kernel
theorem dX0_ranked_43 : decode cX0_ranked 43 = .ok (.iconst (-1), 1) := by decide +kernel
theorem dX0_ranked_44 : decode cX0_ranked 44 = .ok (.ireturn, 1) := by decide +kernel
set_option maxRecDepth 20000 in
theorem ggX0_countWithin_X1_gap : GoodIn wsX0_countWithin wsX1_gap := goodIn_r _ [8, 9, 12, 13, 14, 15, 16, 17] (by decide +kernel) (by decide +kernel)
set_option maxRecDepth 20000 in
theorem gX0_countWithin_X1_gap : GoodIn wsX0_countWithin (wsV RX0 30 RX1 yX1_gap wsX1_gap) := goodIn_app (goodIn_of _ (by decide +kernel)) ggX0_countWithin_X1_gap
theorem dX0_countWithin_0 : decode cX0_countWithin 0 = .ok (.iconst 0, 1) := by decide +kernel
theorem dX0_countWithin_1 : decode cX0_countWithin 1 = .ok (.istore_n 3, 1) := by decide +kernel
theorem dX0_countWithin_2 : decode cX0_countWithin 2 = .ok (.iconst 0, 1) := by decide +kernel
theorem dX0_countWithin_3 : decode cX0_countWithin 3 = .ok (.istore 4, 2) := by decide +kernel
theorem dX0_countWithin_5 : decode cX0_countWithin 5 = .ok (.iload 4, 2) := by decide +kernel
theorem dX0_countWithin_7 : decode cX0_countWithin 7 = .ok (.aload_n 0, 1) := by decide +kernel
theorem dX0_countWithin_8 : decode cX0_countWithin 8 = .ok (.getfield 15, 3) := by decide +kernel
theorem dX0_countWithin_11 : decode cX0_countWithin 11 = .ok (.getfield 20, 3) := by decide +kernel
theorem dX0_countWithin_14 : decode cX0_countWithin 14 = .ok (.if_icmp .ge 39, 3) := by decide +kernel
theorem dX0_countWithin_17 : decode cX0_countWithin 17 = .ok (.aload_n 0, 1) := by decide +kernel
theorem dX0_countWithin_18 : decode cX0_countWithin 18 = .ok (.getfield 15, 3) := by decide +kernel
theorem dX0_countWithin_21 : decode cX0_countWithin 21 = .ok (.getfield 26, 3) := by decide +kernel
theorem dX0_countWithin_24 : decode cX0_countWithin 24 = .ok (.iload 4, 2) := by decide +kernel
theorem dX0_countWithin_26 : decode cX0_countWithin 26 = .ok (.baload, 1) := by decide +kernel
theorem dX0_countWithin_27 : decode cX0_countWithin 27 = .ok (.ifCond .eq 20, 3) := by decide +kernel
theorem dX0_countWithin_30 : decode cX0_countWithin 30 = .ok (.aload_n 0, 1) := by decide +kernel
theorem dX0_countWithin_31 : decode cX0_countWithin 31 = .ok (.getfield 15, 3) := by decide +kernel
theorem dX0_countWithin_34 : decode cX0_countWithin 34 = .ok (.iload_n 1, 1) := by decide +kernel
theorem dX0_countWithin_35 : decode cX0_countWithin 35 = .ok (.iload 4, 2) := by decide +kernel
theorem dX0_countWithin_37 : decode cX0_countWithin 37 = .ok (.invokevirtual 30, 3) := by decide +kernel
theorem dX0_countWithin_40 : decode cX0_countWithin 40 = .ok (.iload_n 2, 1) := by decide +kernel
theorem dX0_countWithin_41 : decode cX0_countWithin 41 = .ok (.if_icmp .gt 6, 3) := by decide +kernel
theorem dX0_countWithin_44 : decode cX0_countWithin 44 = .ok (.iinc 3 1, 3) := by decide +kernel
theorem dX0_countWithin_47 : decode cX0_countWithin 47 = .ok (.iinc 4 1, 3) := by decide +kernel
theorem dX0_countWithin_50 : decode cX0_countWithin 50 = .ok (.goto (-45), 3) := by decide +kernel
theorem dX0_countWithin_53 : decode cX0_countWithin 53 = .ok (.iload_n 3, 1) := by decide +kernel
theorem dX0_countWithin_54 : decode cX0_countWithin 54 = .ok (.ireturn, 1) := by decide +kernel
set_option maxRecDepth 20000 in
theorem ggX0_total_X1_gap : GoodIn wsX0_total wsX1_gap := goodIn_r _ [8, 9, 12, 13, 14, 15, 16, 17] (by decide +kernel) (by decide +kernel)
set_option maxRecDepth 20000 in
theorem gX0_total_X1_gap : GoodIn wsX0_total (wsV RX0 30 RX1 yX1_gap wsX1_gap) := goodIn_app (goodIn_of _ (by decide +kernel)) ggX0_total_X1_gap
theorem dX0_total_0 : decode cX0_total 0 = .ok (.iconst 0, 1) := by decide +kernel
theorem dX0_total_1 : decode cX0_total 1 = .ok (.istore_n 2, 1) := by decide +kernel
theorem dX0_total_2 : decode cX0_total 2 = .ok (.iconst 0, 1) := by decide +kernel
theorem dX0_total_3 : decode cX0_total 3 = .ok (.istore_n 3, 1) := by decide +kernel
theorem dX0_total_4 : decode cX0_total 4 = .ok (.iload_n 3, 1) := by decide +kernel
theorem dX0_total_5 : decode cX0_total 5 = .ok (.aload_n 0, 1) := by decide +kernel
theorem dX0_total_6 : decode cX0_total 6 = .ok (.getfield 15, 3) := by decide +kernel
theorem dX0_total_9 : decode cX0_total 9 = .ok (.getfield 20, 3) := by decide +kernel
theorem dX0_total_12 : decode cX0_total 12 = .ok (.if_icmp .ge 33, 3) := by decide +kernel
theorem dX0_total_15 : decode cX0_total 15 = .ok (.aload_n 0, 1) := by decide +kernel
theorem dX0_total_16 : decode cX0_total 16 = .ok (.getfield 15, 3) := by decide +kernel
theorem dX0_total_19 : decode cX0_total 19 = .ok (.getfield 26, 3) := by decide +kernel
theorem dX0_total_22 : decode cX0_total 22 = .ok (.iload_n 3, 1) := by decide +kernel
theorem dX0_total_23 : decode cX0_total 23 = .ok (.baload, 1) := by decide +kernel
theorem dX0_total_24 : decode cX0_total 24 = .ok (.ifCond .eq 15, 3) := by decide +kernel
theorem dX0_total_27 : decode cX0_total 27 = .ok (.iload_n 2, 1) := by decide +kernel
theorem dX0_total_28 : decode cX0_total 28 = .ok (.aload_n 0, 1) := by decide +kernel
theorem dX0_total_29 : decode cX0_total 29 = .ok (.getfield 15, 3) := by decide +kernel
theorem dX0_total_32 : decode cX0_total 32 = .ok (.iload_n 1, 1) := by decide +kernel
theorem dX0_total_33 : decode cX0_total 33 = .ok (.iload_n 3, 1) := by decide +kernel
theorem dX0_total_34 : decode cX0_total 34 = .ok (.invokevirtual 30, 3) := by decide +kernel
theorem dX0_total_37 : decode cX0_total 37 = .ok (.iadd, 1) := by decide +kernel
theorem dX0_total_38 : decode cX0_total 38 = .ok (.istore_n 2, 1) := by decide +kernel
theorem dX0_total_39 : decode cX0_total 39 = .ok (.iinc 3 1, 3) := by decide +kernel
theorem dX0_total_42 : decode cX0_total 42 = .ok (.goto (-38), 3) := by decide +kernel
theorem dX0_total_45 : decode cX0_total 45 = .ok (.iload_n 2, 1) := by decide +kernel
theorem dX0_total_46 : decode cX0_total 46 = .ok (.ireturn, 1) := by decide +kernel
set_option maxRecDepth 20000 in
theorem ggX0_remotest_X0_findReaches : GoodIn wsX0_remotest wsX0_findReaches := goodIn_r _ [9, 1, 4, 3, 10, 11, 12, 13, 8, 14, 15, 16, 17, 18, 19, 20, 21, 22, 23, 24, 25, 26, 27, 28, 29] (by decide +kernel) (by decide +kernel)
set_option maxRecDepth 20000 in
theorem gX0_remotest_X0_findReaches : GoodIn wsX0_remotest (wsV RX0 40 RX0 yX0_findReaches wsX0_findReaches) := goodIn_app (goodIn_of _ (by decide +kernel)) ggX0_remotest_X0_findReaches
theorem dX0_remotest_0 : decode cX0_remotest 0 = .ok (.aload_n 0, 1) := by decide +kernel
theorem dX0_remotest_1 : decode cX0_remotest 1 = .ok (.getfield 15, 3) := by decide +kernel
theorem dX0_remotest_4 : decode cX0_remotest 4 = .ok (.getfield 37, 3) := by decide +kernel
theorem dX0_remotest_7 : decode cX0_remotest 7 = .ok (.ifCond .ne 5, 3) := by decide +kernel
theorem dX0_remotest_10 : decode cX0_remotest 10 = .ok (.iconst (-1), 1) := by decide +kernel
theorem dX0_remotest_11 : decode cX0_remotest 11 = .ok (.ireturn, 1) := by decide +kernel
theorem dX0_remotest_12 : decode cX0_remotest 12 = .ok (.aload_n 0, 1) := by decide +kernel
theorem dX0_remotest_13 : decode cX0_remotest 13 = .ok (.invokevirtual 40, 3) := by decide +kernel
theorem dX0_remotest_16 : decode cX0_remotest 16 = .ok (.aload_n 0, 1) := by decide +kernel
theorem dX0_remotest_17 : decode cX0_remotest 17 = .ok (.getfield 9, 3) := by decide +kernel
theorem dX0_remotest_20 : decode cX0_remotest 20 = .ok (.iconst 0, 1) := by decide +kernel
theorem dX0_remotest_21 : decode cX0_remotest 21 = .ok (.iaload, 1) := by decide +kernel
theorem dX0_remotest_22 : decode cX0_remotest 22 = .ok (.istore_n 2, 1) := by decide +kernel
theorem dX0_remotest_23 : decode cX0_remotest 23 = .ok (.iconst 0, 1) := by decide +kernel
theorem dX0_remotest_24 : decode cX0_remotest 24 = .ok (.istore_n 3, 1) := by decide +kernel
theorem dX0_remotest_25 : decode cX0_remotest 25 = .ok (.iconst 1, 1) := by decide +kernel
theorem dX0_remotest_26 : decode cX0_remotest 26 = .ok (.istore 4, 2) := by decide +kernel
theorem dX0_remotest_28 : decode cX0_remotest 28 = .ok (.iload 4, 2) := by decide +kernel
theorem dX0_remotest_30 : decode cX0_remotest 30 = .ok (.aload_n 0, 1) := by decide +kernel
theorem dX0_remotest_31 : decode cX0_remotest 31 = .ok (.getfield 15, 3) := by decide +kernel
theorem dX0_remotest_34 : decode cX0_remotest 34 = .ok (.getfield 20, 3) := by decide +kernel
theorem dX0_remotest_37 : decode cX0_remotest 37 = .ok (.if_icmp .ge 31, 3) := by decide +kernel
theorem dX0_remotest_40 : decode cX0_remotest 40 = .ok (.aload_n 0, 1) := by decide +kernel
theorem dX0_remotest_41 : decode cX0_remotest 41 = .ok (.getfield 9, 3) := by decide +kernel
theorem dX0_remotest_44 : decode cX0_remotest 44 = .ok (.iload 4, 2) := by decide +kernel
theorem dX0_remotest_46 : decode cX0_remotest 46 = .ok (.iaload, 1) := by decide +kernel
theorem dX0_remotest_47 : decode cX0_remotest 47 = .ok (.iload_n 2, 1) := by decide +kernel
theorem dX0_remotest_48 : decode cX0_remotest 48 = .ok (.if_icmp .le 14, 3) := by decide +kernel
theorem dX0_remotest_51 : decode cX0_remotest 51 = .ok (.aload_n 0, 1) := by decide +kernel
theorem dX0_remotest_52 : decode cX0_remotest 52 = .ok (.getfield 9, 3) := by decide +kernel
theorem dX0_remotest_55 : decode cX0_remotest 55 = .ok (.iload 4, 2) := by decide +kernel
theorem dX0_remotest_57 : decode cX0_remotest 57 = .ok (.iaload, 1) := by decide +kernel
theorem dX0_remotest_58 : decode cX0_remotest 58 = .ok (.istore_n 2, 1) := by decide +kernel
theorem dX0_remotest_59 : decode cX0_remotest 59 = .ok (.iload 4, 2) := by decide +kernel
theorem dX0_remotest_61 : decode cX0_remotest 61 = .ok (.istore_n 3, 1) := by decide +kernel
theorem dX0_remotest_62 : decode cX0_remotest 62 = .ok (.iinc 4 1, 3) := by decide +kernel
theorem dX0_remotest_65 : decode cX0_remotest 65 = .ok (.goto (-37), 3) := by decide +kernel
theorem dX0_remotest_68 : decode cX0_remotest 68 = .ok (.iload_n 1, 1) := by decide +kernel
theorem dX0_remotest_69 : decode cX0_remotest 69 = .ok (.ifCond .ne 7, 3) := by decide +kernel
theorem dX0_remotest_72 : decode cX0_remotest 72 = .ok (.iload_n 2, 1) := by decide +kernel
theorem dX0_remotest_73 : decode cX0_remotest 73 = .ok (.goto 4, 3) := by decide +kernel
theorem dX0_remotest_76 : decode cX0_remotest 76 = .ok (.iload_n 3, 1) := by decide +kernel
theorem dX0_remotest_77 : decode cX0_remotest 77 = .ok (.ireturn, 1) := by decide +kernel
set_option maxRecDepth 20000 in
theorem ggX0_bestNew_X0_findReaches : GoodIn wsX0_bestNew wsX0_findReaches := goodIn_r _ [9, 2, 3, 10, 1, 11, 12, 13, 8, 14, 4, 15, 16, 17, 18, 19, 20, 32, 33, 34, 35, 36, 37, 38, 39] (by decide +kernel) (by decide +kernel)
set_option maxRecDepth 20000 in
theorem gX0_bestNew_X0_findReaches : GoodIn wsX0_bestNew (wsV RX0 40 RX0 yX0_findReaches wsX0_findReaches) := goodIn_app (goodIn_of _ (by decide +kernel)) ggX0_bestNew_X0_findReaches
set_option maxRecDepth 20000 in
theorem ggX0_bestNew_X0_leftWith : GoodIn wsX0_bestNew wsX0_leftWith := goodIn_r _ [24, 2, 3, 10, 25, 26, 27, 28, 29, 30, 31, 15, 16, 17, 18, 19, 20, 32, 33, 34, 35, 36, 37, 38, 39] (by decide +kernel) (by decide +kernel)
set_option maxRecDepth 20000 in
theorem gX0_bestNew_X0_leftWith : GoodIn wsX0_bestNew (wsV RX0 43 RX0 yX0_leftWith wsX0_leftWith) := goodIn_app (goodIn_of _ (by decide +kernel)) ggX0_bestNew_X0_leftWith
theorem dX0_bestNew_0 : decode cX0_bestNew 0 = .ok (.aload_n 0, 1) := by decide +kernel
theorem dX0_bestNew_1 : decode cX0_bestNew 1 = .ok (.invokevirtual 40, 3) := by decide +kernel
theorem dX0_bestNew_4 : decode cX0_bestNew 4 = .ok (.iconst (-1), 1) := by decide +kernel
theorem dX0_bestNew_5 : decode cX0_bestNew 5 = .ok (.istore_n 2, 1) := by decide +kernel
theorem dX0_bestNew_6 : decode cX0_bestNew 6 = .ok (.ldc 19, 2) := by decide +kernel
theorem dX0_bestNew_8 : decode cX0_bestNew 8 = .ok (.istore_n 3, 1) := by decide +kernel
theorem dX0_bestNew_9 : decode cX0_bestNew 9 = .ok (.iconst 0, 1) := by decide +kernel
theorem dX0_bestNew_10 : decode cX0_bestNew 10 = .ok (.istore 4, 2) := by decide +kernel
theorem dX0_bestNew_12 : decode cX0_bestNew 12 = .ok (.iload 4, 2) := by decide +kernel
theorem dX0_bestNew_14 : decode cX0_bestNew 14 = .ok (.aload_n 0, 1) := by decide +kernel
theorem dX0_bestNew_15 : decode cX0_bestNew 15 = .ok (.getfield 15, 3) := by decide +kernel
theorem dX0_bestNew_18 : decode cX0_bestNew 18 = .ok (.getfield 20, 3) := by decide +kernel
theorem dX0_bestNew_21 : decode cX0_bestNew 21 = .ok (.if_icmp .ge 47, 3) := by decide +kernel
theorem dX0_bestNew_24 : decode cX0_bestNew 24 = .ok (.aload_n 0, 1) := by decide +kernel
theorem dX0_bestNew_25 : decode cX0_bestNew 25 = .ok (.getfield 15, 3) := by decide +kernel
theorem dX0_bestNew_28 : decode cX0_bestNew 28 = .ok (.getfield 26, 3) := by decide +kernel
theorem dX0_bestNew_31 : decode cX0_bestNew 31 = .ok (.iload 4, 2) := by decide +kernel
theorem dX0_bestNew_33 : decode cX0_bestNew 33 = .ok (.baload, 1) := by decide +kernel
theorem dX0_bestNew_34 : decode cX0_bestNew 34 = .ok (.ifCond .eq 8, 3) := by decide +kernel
theorem dX0_bestNew_37 : decode cX0_bestNew 37 = .ok (.ldc 19, 2) := by decide +kernel
theorem dX0_bestNew_39 : decode cX0_bestNew 39 = .ok (.goto 9, 3) := by decide +kernel
theorem dX0_bestNew_42 : decode cX0_bestNew 42 = .ok (.aload_n 0, 1) := by decide +kernel
theorem dX0_bestNew_43 : decode cX0_bestNew 43 = .ok (.iload 4, 2) := by decide +kernel
theorem dX0_bestNew_45 : decode cX0_bestNew 45 = .ok (.invokevirtual 43, 3) := by decide +kernel
theorem dX0_bestNew_48 : decode cX0_bestNew 48 = .ok (.istore 5, 2) := by decide +kernel
theorem dX0_bestNew_50 : decode cX0_bestNew 50 = .ok (.iload 5, 2) := by decide +kernel
theorem dX0_bestNew_52 : decode cX0_bestNew 52 = .ok (.iload_n 3, 1) := by decide +kernel
theorem dX0_bestNew_53 : decode cX0_bestNew 53 = .ok (.if_icmp .ge 9, 3) := by decide +kernel
theorem dX0_bestNew_56 : decode cX0_bestNew 56 = .ok (.iload 5, 2) := by decide +kernel
theorem dX0_bestNew_58 : decode cX0_bestNew 58 = .ok (.istore_n 3, 1) := by decide +kernel
theorem dX0_bestNew_59 : decode cX0_bestNew 59 = .ok (.iload 4, 2) := by decide +kernel
theorem dX0_bestNew_61 : decode cX0_bestNew 61 = .ok (.istore_n 2, 1) := by decide +kernel
theorem dX0_bestNew_62 : decode cX0_bestNew 62 = .ok (.iinc 4 1, 3) := by decide +kernel
theorem dX0_bestNew_65 : decode cX0_bestNew 65 = .ok (.goto (-53), 3) := by decide +kernel
theorem dX0_bestNew_68 : decode cX0_bestNew 68 = .ok (.iload_n 2, 1) := by decide +kernel
theorem dX0_bestNew_69 : decode cX0_bestNew 69 = .ok (.iconst (-1), 1) := by decide +kernel
theorem dX0_bestNew_70 : decode cX0_bestNew 70 = .ok (.if_icmp .eq 7, 3) := by decide +kernel
theorem dX0_bestNew_73 : decode cX0_bestNew 73 = .ok (.iload_n 1, 1) := by decide +kernel
theorem dX0_bestNew_74 : decode cX0_bestNew 74 = .ok (.ifCond .ne 7, 3) := by decide +kernel
theorem dX0_bestNew_77 : decode cX0_bestNew 77 = .ok (.iload_n 2, 1) := by decide +kernel
theorem dX0_bestNew_78 : decode cX0_bestNew 78 = .ok (.goto 4, 3) := by decide +kernel
theorem dX0_bestNew_81 : decode cX0_bestNew 81 = .ok (.iload_n 3, 1) := by decide +kernel
theorem dX0_bestNew_82 : decode cX0_bestNew 82 = .ok (.ireturn, 1) := by decide +kernel
set_option maxRecDepth 20000 in
theorem ggX0_countServed_X0_countBefore : GoodIn wsX0_countServed wsX0_countBefore := goodIn_r _ [7, 1, 2, 8, 9, 10, 11, 12, 13, 14, 15, 16, 17, 18, 19, 20, 21, 22] (by decide +kernel) (by decide +kernel)
set_option maxRecDepth 20000 in
theorem gX0_countServed_X0_countBefore : GoodIn wsX0_countServed (wsV RX0 34 RX0 yX0_countBefore wsX0_countBefore) := goodIn_app (goodIn_of _ (by decide +kernel)) ggX0_countServed_X0_countBefore
theorem dX0_countServed_0 : decode cX0_countServed 0 = .ok (.iconst 0, 1) := by decide +kernel
theorem dX0_countServed_1 : decode cX0_countServed 1 = .ok (.istore_n 2, 1) := by decide +kernel
theorem dX0_countServed_2 : decode cX0_countServed 2 = .ok (.iconst 0, 1) := by decide +kernel
theorem dX0_countServed_3 : decode cX0_countServed 3 = .ok (.istore_n 3, 1) := by decide +kernel
theorem dX0_countServed_4 : decode cX0_countServed 4 = .ok (.iload_n 3, 1) := by decide +kernel
theorem dX0_countServed_5 : decode cX0_countServed 5 = .ok (.aload_n 0, 1) := by decide +kernel
theorem dX0_countServed_6 : decode cX0_countServed 6 = .ok (.getfield 15, 3) := by decide +kernel
theorem dX0_countServed_9 : decode cX0_countServed 9 = .ok (.getfield 20, 3) := by decide +kernel
theorem dX0_countServed_12 : decode cX0_countServed 12 = .ok (.if_icmp .ge 21, 3) := by decide +kernel
theorem dX0_countServed_15 : decode cX0_countServed 15 = .ok (.aload_n 0, 1) := by decide +kernel
theorem dX0_countServed_16 : decode cX0_countServed 16 = .ok (.iload_n 3, 1) := by decide +kernel
theorem dX0_countServed_17 : decode cX0_countServed 17 = .ok (.iload_n 1, 1) := by decide +kernel
theorem dX0_countServed_18 : decode cX0_countServed 18 = .ok (.invokevirtual 34, 3) := by decide +kernel
theorem dX0_countServed_21 : decode cX0_countServed 21 = .ok (.ifCond .ne 6, 3) := by decide +kernel
theorem dX0_countServed_24 : decode cX0_countServed 24 = .ok (.iinc 2 1, 3) := by decide +kernel
theorem dX0_countServed_27 : decode cX0_countServed 27 = .ok (.iinc 3 1, 3) := by decide +kernel
theorem dX0_countServed_30 : decode cX0_countServed 30 = .ok (.goto (-26), 3) := by decide +kernel
theorem dX0_countServed_33 : decode cX0_countServed 33 = .ok (.iload_n 2, 1) := by decide +kernel
theorem dX0_countServed_34 : decode cX0_countServed 34 = .ok (.ireturn, 1) := by decide +kernel
set_option maxRecDepth 20000 in
theorem ggX0_closestTwo_X1_gap : GoodIn wsX0_closestTwo wsX1_gap := goodIn_r _ [9, 10, 13, 14, 15, 16, 17, 18] (by decide +kernel) (by decide +kernel)
set_option maxRecDepth 20000 in
theorem gX0_closestTwo_X1_gap : GoodIn wsX0_closestTwo (wsV RX0 30 RX1 yX1_gap wsX1_gap) := goodIn_app (goodIn_of _ (by decide +kernel)) ggX0_closestTwo_X1_gap
theorem dX0_closestTwo_0 : decode cX0_closestTwo 0 = .ok (.ldc 19, 2) := by decide +kernel
theorem dX0_closestTwo_2 : decode cX0_closestTwo 2 = .ok (.istore_n 2, 1) := by decide +kernel
theorem dX0_closestTwo_3 : decode cX0_closestTwo 3 = .ok (.iconst (-1), 1) := by decide +kernel
theorem dX0_closestTwo_4 : decode cX0_closestTwo 4 = .ok (.istore_n 3, 1) := by decide +kernel
theorem dX0_closestTwo_5 : decode cX0_closestTwo 5 = .ok (.iconst (-1), 1) := by decide +kernel
theorem dX0_closestTwo_6 : decode cX0_closestTwo 6 = .ok (.istore 4, 2) := by decide +kernel
theorem dX0_closestTwo_8 : decode cX0_closestTwo 8 = .ok (.iconst 0, 1) := by decide +kernel
theorem dX0_closestTwo_9 : decode cX0_closestTwo 9 = .ok (.istore 5, 2) := by decide +kernel
theorem dX0_closestTwo_11 : decode cX0_closestTwo 11 = .ok (.iload 5, 2) := by decide +kernel
theorem dX0_closestTwo_13 : decode cX0_closestTwo 13 = .ok (.aload_n 0, 1) := by decide +kernel
theorem dX0_closestTwo_14 : decode cX0_closestTwo 14 = .ok (.getfield 15, 3) := by decide +kernel
theorem dX0_closestTwo_17 : decode cX0_closestTwo 17 = .ok (.getfield 20, 3) := by decide +kernel
theorem dX0_closestTwo_20 : decode cX0_closestTwo 20 = .ok (.if_icmp .ge 93, 3) := by decide +kernel
theorem dX0_closestTwo_23 : decode cX0_closestTwo 23 = .ok (.iload 5, 2) := by decide +kernel
theorem dX0_closestTwo_25 : decode cX0_closestTwo 25 = .ok (.iconst 1, 1) := by decide +kernel
theorem dX0_closestTwo_26 : decode cX0_closestTwo 26 = .ok (.iadd, 1) := by decide +kernel
theorem dX0_closestTwo_27 : decode cX0_closestTwo 27 = .ok (.istore 6, 2) := by decide +kernel
theorem dX0_closestTwo_29 : decode cX0_closestTwo 29 = .ok (.iload 6, 2) := by decide +kernel
theorem dX0_closestTwo_31 : decode cX0_closestTwo 31 = .ok (.aload_n 0, 1) := by decide +kernel
theorem dX0_closestTwo_32 : decode cX0_closestTwo 32 = .ok (.getfield 15, 3) := by decide +kernel
theorem dX0_closestTwo_35 : decode cX0_closestTwo 35 = .ok (.getfield 20, 3) := by decide +kernel
theorem dX0_closestTwo_38 : decode cX0_closestTwo 38 = .ok (.if_icmp .ge 69, 3) := by decide +kernel
theorem dX0_closestTwo_41 : decode cX0_closestTwo 41 = .ok (.aload_n 0, 1) := by decide +kernel
theorem dX0_closestTwo_42 : decode cX0_closestTwo 42 = .ok (.getfield 15, 3) := by decide +kernel
theorem dX0_closestTwo_45 : decode cX0_closestTwo 45 = .ok (.getfield 26, 3) := by decide +kernel
theorem dX0_closestTwo_48 : decode cX0_closestTwo 48 = .ok (.iload 5, 2) := by decide +kernel
theorem dX0_closestTwo_50 : decode cX0_closestTwo 50 = .ok (.baload, 1) := by decide +kernel
theorem dX0_closestTwo_51 : decode cX0_closestTwo 51 = .ok (.ifCond .eq 50, 3) := by decide +kernel
theorem dX0_closestTwo_54 : decode cX0_closestTwo 54 = .ok (.aload_n 0, 1) := by decide +kernel
theorem dX0_closestTwo_55 : decode cX0_closestTwo 55 = .ok (.getfield 15, 3) := by decide +kernel
theorem dX0_closestTwo_58 : decode cX0_closestTwo 58 = .ok (.getfield 26, 3) := by decide +kernel
theorem dX0_closestTwo_61 : decode cX0_closestTwo 61 = .ok (.iload 6, 2) := by decide +kernel
theorem dX0_closestTwo_63 : decode cX0_closestTwo 63 = .ok (.baload, 1) := by decide +kernel
theorem dX0_closestTwo_64 : decode cX0_closestTwo 64 = .ok (.ifCond .eq 37, 3) := by decide +kernel
theorem dX0_closestTwo_67 : decode cX0_closestTwo 67 = .ok (.aload_n 0, 1) := by decide +kernel
theorem dX0_closestTwo_68 : decode cX0_closestTwo 68 = .ok (.getfield 15, 3) := by decide +kernel
theorem dX0_closestTwo_71 : decode cX0_closestTwo 71 = .ok (.iload 5, 2) := by decide +kernel
theorem dX0_closestTwo_73 : decode cX0_closestTwo 73 = .ok (.iload 6, 2) := by decide +kernel
theorem dX0_closestTwo_75 : decode cX0_closestTwo 75 = .ok (.invokevirtual 30, 3) := by decide +kernel
theorem dX0_closestTwo_78 : decode cX0_closestTwo 78 = .ok (.iload_n 2, 1) := by decide +kernel
theorem dX0_closestTwo_79 : decode cX0_closestTwo 79 = .ok (.if_icmp .ge 22, 3) := by decide +kernel
theorem dX0_closestTwo_82 : decode cX0_closestTwo 82 = .ok (.aload_n 0, 1) := by decide +kernel
theorem dX0_closestTwo_83 : decode cX0_closestTwo 83 = .ok (.getfield 15, 3) := by decide +kernel
theorem dX0_closestTwo_86 : decode cX0_closestTwo 86 = .ok (.iload 5, 2) := by decide +kernel
theorem dX0_closestTwo_88 : decode cX0_closestTwo 88 = .ok (.iload 6, 2) := by decide +kernel
theorem dX0_closestTwo_90 : decode cX0_closestTwo 90 = .ok (.invokevirtual 30, 3) := by decide +kernel
theorem dX0_closestTwo_93 : decode cX0_closestTwo 93 = .ok (.istore_n 2, 1) := by decide +kernel
theorem dX0_closestTwo_94 : decode cX0_closestTwo 94 = .ok (.iload 5, 2) := by decide +kernel
theorem dX0_closestTwo_96 : decode cX0_closestTwo 96 = .ok (.istore_n 3, 1) := by decide +kernel
theorem dX0_closestTwo_97 : decode cX0_closestTwo 97 = .ok (.iload 6, 2) := by decide +kernel
theorem dX0_closestTwo_99 : decode cX0_closestTwo 99 = .ok (.istore 4, 2) := by decide +kernel
theorem dX0_closestTwo_101 : decode cX0_closestTwo 101 = .ok (.iinc 6 1, 3) := by decide +kernel
theorem dX0_closestTwo_104 : decode cX0_closestTwo 104 = .ok (.goto (-75), 3) := by decide +kernel
theorem dX0_closestTwo_107 : decode cX0_closestTwo 107 = .ok (.iinc 5 1, 3) := by decide +kernel
theorem dX0_closestTwo_110 : decode cX0_closestTwo 110 = .ok (.goto (-99), 3) := by decide +kernel
theorem dX0_closestTwo_113 : decode cX0_closestTwo 113 = .ok (.iload_n 3, 1) := by decide +kernel
theorem dX0_closestTwo_114 : decode cX0_closestTwo 114 = .ok (.iconst (-1), 1) := by decide +kernel
theorem dX0_closestTwo_115 : decode cX0_closestTwo 115 = .ok (.if_icmp .ne 5, 3) := by decide +kernel
theorem dX0_closestTwo_118 : decode cX0_closestTwo 118 = .ok (.iconst (-1), 1) := by decide +kernel
theorem dX0_closestTwo_119 : decode cX0_closestTwo 119 = .ok (.ireturn, 1) := by decide +kernel
theorem dX0_closestTwo_120 : decode cX0_closestTwo 120 = .ok (.iload_n 1, 1) := by decide +kernel
theorem dX0_closestTwo_121 : decode cX0_closestTwo 121 = .ok (.ifCond .ne 7, 3) := by decide +kernel
theorem dX0_closestTwo_124 : decode cX0_closestTwo 124 = .ok (.iload_n 2, 1) := by decide +kernel
theorem dX0_closestTwo_125 : decode cX0_closestTwo 125 = .ok (.goto 14, 3) := by decide +kernel
theorem dX0_closestTwo_128 : decode cX0_closestTwo 128 = .ok (.iload_n 1, 1) := by decide +kernel
theorem dX0_closestTwo_129 : decode cX0_closestTwo 129 = .ok (.iconst 1, 1) := by decide +kernel
theorem dX0_closestTwo_130 : decode cX0_closestTwo 130 = .ok (.if_icmp .ne 7, 3) := by decide +kernel
theorem dX0_closestTwo_133 : decode cX0_closestTwo 133 = .ok (.iload_n 3, 1) := by decide +kernel
theorem dX0_closestTwo_134 : decode cX0_closestTwo 134 = .ok (.goto 5, 3) := by decide +kernel
theorem dX0_closestTwo_137 : decode cX0_closestTwo 137 = .ok (.iload 4, 2) := by decide +kernel
theorem dX0_closestTwo_139 : decode cX0_closestTwo 139 = .ok (.ireturn, 1) := by decide +kernel
set_option maxRecDepth 20000 in
theorem ggX0_countBefore_X1_gap : GoodIn wsX0_countBefore wsX1_gap := goodIn_r _ [8, 9, 12, 13, 14, 15, 16, 17] (by decide +kernel) (by decide +kernel)
set_option maxRecDepth 20000 in
theorem gX0_countBefore_X1_gap : GoodIn wsX0_countBefore (wsV RX0 30 RX1 yX1_gap wsX1_gap) := goodIn_app (goodIn_of _ (by decide +kernel)) ggX0_countBefore_X1_gap
theorem dX0_countBefore_0 : decode cX0_countBefore 0 = .ok (.iconst 0, 1) := by decide +kernel
theorem dX0_countBefore_1 : decode cX0_countBefore 1 = .ok (.istore_n 3, 1) := by decide +kernel
theorem dX0_countBefore_2 : decode cX0_countBefore 2 = .ok (.aload_n 0, 1) := by decide +kernel
theorem dX0_countBefore_3 : decode cX0_countBefore 3 = .ok (.getfield 15, 3) := by decide +kernel
theorem dX0_countBefore_6 : decode cX0_countBefore 6 = .ok (.iload_n 1, 1) := by decide +kernel
theorem dX0_countBefore_7 : decode cX0_countBefore 7 = .ok (.iload_n 2, 1) := by decide +kernel
theorem dX0_countBefore_8 : decode cX0_countBefore 8 = .ok (.invokevirtual 30, 3) := by decide +kernel
theorem dX0_countBefore_11 : decode cX0_countBefore 11 = .ok (.istore 4, 2) := by decide +kernel
theorem dX0_countBefore_13 : decode cX0_countBefore 13 = .ok (.iconst 0, 1) := by decide +kernel
theorem dX0_countBefore_14 : decode cX0_countBefore 14 = .ok (.istore 5, 2) := by decide +kernel
theorem dX0_countBefore_16 : decode cX0_countBefore 16 = .ok (.iload 5, 2) := by decide +kernel
theorem dX0_countBefore_18 : decode cX0_countBefore 18 = .ok (.aload_n 0, 1) := by decide +kernel
theorem dX0_countBefore_19 : decode cX0_countBefore 19 = .ok (.getfield 15, 3) := by decide +kernel
theorem dX0_countBefore_22 : decode cX0_countBefore 22 = .ok (.getfield 20, 3) := by decide +kernel
theorem dX0_countBefore_25 : decode cX0_countBefore 25 = .ok (.if_icmp .ge 57, 3) := by decide +kernel
theorem dX0_countBefore_28 : decode cX0_countBefore 28 = .ok (.aload_n 0, 1) := by decide +kernel
theorem dX0_countBefore_29 : decode cX0_countBefore 29 = .ok (.getfield 15, 3) := by decide +kernel
theorem dX0_countBefore_32 : decode cX0_countBefore 32 = .ok (.iload_n 1, 1) := by decide +kernel
theorem dX0_countBefore_33 : decode cX0_countBefore 33 = .ok (.iload 5, 2) := by decide +kernel
theorem dX0_countBefore_35 : decode cX0_countBefore 35 = .ok (.invokevirtual 30, 3) := by decide +kernel
theorem dX0_countBefore_38 : decode cX0_countBefore 38 = .ok (.istore 6, 2) := by decide +kernel
theorem dX0_countBefore_40 : decode cX0_countBefore 40 = .ok (.aload_n 0, 1) := by decide +kernel
theorem dX0_countBefore_41 : decode cX0_countBefore 41 = .ok (.getfield 15, 3) := by decide +kernel
theorem dX0_countBefore_44 : decode cX0_countBefore 44 = .ok (.getfield 26, 3) := by decide +kernel
theorem dX0_countBefore_47 : decode cX0_countBefore 47 = .ok (.iload 5, 2) := by decide +kernel
theorem dX0_countBefore_49 : decode cX0_countBefore 49 = .ok (.baload, 1) := by decide +kernel
theorem dX0_countBefore_50 : decode cX0_countBefore 50 = .ok (.ifCond .eq 26, 3) := by decide +kernel
theorem dX0_countBefore_53 : decode cX0_countBefore 53 = .ok (.iload 6, 2) := by decide +kernel
theorem dX0_countBefore_55 : decode cX0_countBefore 55 = .ok (.iload 4, 2) := by decide +kernel
theorem dX0_countBefore_57 : decode cX0_countBefore 57 = .ok (.if_icmp .lt 16, 3) := by decide +kernel
theorem dX0_countBefore_60 : decode cX0_countBefore 60 = .ok (.iload 6, 2) := by decide +kernel
theorem dX0_countBefore_62 : decode cX0_countBefore 62 = .ok (.iload 4, 2) := by decide +kernel
theorem dX0_countBefore_64 : decode cX0_countBefore 64 = .ok (.if_icmp .ne 12, 3) := by decide +kernel
theorem dX0_countBefore_67 : decode cX0_countBefore 67 = .ok (.iload 5, 2) := by decide +kernel
theorem dX0_countBefore_69 : decode cX0_countBefore 69 = .ok (.iload_n 2, 1) := by decide +kernel
theorem dX0_countBefore_70 : decode cX0_countBefore 70 = .ok (.if_icmp .ge 6, 3) := by decide +kernel
theorem dX0_countBefore_73 : decode cX0_countBefore 73 = .ok (.iinc 3 1, 3) := by decide +kernel
theorem dX0_countBefore_76 : decode cX0_countBefore 76 = .ok (.iinc 5 1, 3) := by decide +kernel
theorem dX0_countBefore_79 : decode cX0_countBefore 79 = .ok (.goto (-63), 3) := by decide +kernel
theorem dX0_countBefore_82 : decode cX0_countBefore 82 = .ok (.iload_n 3, 1) := by decide +kernel
theorem dX0_countBefore_83 : decode cX0_countBefore 83 = .ok (.ireturn, 1) := by decide +kernel
set_option maxRecDepth 20000 in
theorem ggX0_findReaches_X0_closest : GoodIn wsX0_findReaches wsX0_closest := goodIn_r _ [9, 4, 1, 2, 10, 11, 12, 13, 14, 15, 16, 17, 18, 19, 20, 21, 22, 23, 24] (by decide +kernel) (by decide +kernel)
set_option maxRecDepth 20000 in
theorem gX0_findReaches_X0_closest : GoodIn wsX0_findReaches (wsV RX0 47 RX0 yX0_closest wsX0_closest) := goodIn_app (goodIn_of _ (by decide +kernel)) ggX0_findReaches_X0_closest
set_option maxRecDepth 20000 in
theorem ggX0_findReaches_X1_gap : GoodIn wsX0_findReaches wsX1_gap := goodIn_r _ [15, 16, 19, 20, 21, 22, 23, 24] (by decide +kernel) (by decide +kernel)
set_option maxRecDepth 20000 in
theorem gX0_findReaches_X1_gap : GoodIn wsX0_findReaches (wsV RX0 30 RX1 yX1_gap wsX1_gap) := goodIn_app (goodIn_of _ (by decide +kernel)) ggX0_findReaches_X1_gap
theorem dX0_findReaches_0 : decode cX0_findReaches 0 = .ok (.iconst 0, 1) := by decide +kernel
theorem dX0_findReaches_1 : decode cX0_findReaches 1 = .ok (.istore_n 1, 1) := by decide +kernel
theorem dX0_findReaches_2 : decode cX0_findReaches 2 = .ok (.iload_n 1, 1) := by decide +kernel
theorem dX0_findReaches_3 : decode cX0_findReaches 3 = .ok (.aload_n 0, 1) := by decide +kernel
theorem dX0_findReaches_4 : decode cX0_findReaches 4 = .ok (.getfield 15, 3) := by decide +kernel
theorem dX0_findReaches_7 : decode cX0_findReaches 7 = .ok (.getfield 20, 3) := by decide +kernel
theorem dX0_findReaches_10 : decode cX0_findReaches 10 = .ok (.if_icmp .ge 40, 3) := by decide +kernel
theorem dX0_findReaches_13 : decode cX0_findReaches 13 = .ok (.aload_n 0, 1) := by decide +kernel
theorem dX0_findReaches_14 : decode cX0_findReaches 14 = .ok (.iload_n 1, 1) := by decide +kernel
theorem dX0_findReaches_15 : decode cX0_findReaches 15 = .ok (.invokevirtual 47, 3) := by decide +kernel
theorem dX0_findReaches_18 : decode cX0_findReaches 18 = .ok (.istore_n 2, 1) := by decide +kernel
theorem dX0_findReaches_19 : decode cX0_findReaches 19 = .ok (.aload_n 0, 1) := by decide +kernel
theorem dX0_findReaches_20 : decode cX0_findReaches 20 = .ok (.getfield 9, 3) := by decide +kernel
theorem dX0_findReaches_23 : decode cX0_findReaches 23 = .ok (.iload_n 1, 1) := by decide +kernel
theorem dX0_findReaches_24 : decode cX0_findReaches 24 = .ok (.iload_n 2, 1) := by decide +kernel
theorem dX0_findReaches_25 : decode cX0_findReaches 25 = .ok (.iconst (-1), 1) := by decide +kernel
theorem dX0_findReaches_26 : decode cX0_findReaches 26 = .ok (.if_icmp .ne 8, 3) := by decide +kernel
theorem dX0_findReaches_29 : decode cX0_findReaches 29 = .ok (.ldc 19, 2) := by decide +kernel
theorem dX0_findReaches_31 : decode cX0_findReaches 31 = .ok (.goto 12, 3) := by decide +kernel
theorem dX0_findReaches_34 : decode cX0_findReaches 34 = .ok (.aload_n 0, 1) := by decide +kernel
theorem dX0_findReaches_35 : decode cX0_findReaches 35 = .ok (.getfield 15, 3) := by decide +kernel
theorem dX0_findReaches_38 : decode cX0_findReaches 38 = .ok (.iload_n 1, 1) := by decide +kernel
theorem dX0_findReaches_39 : decode cX0_findReaches 39 = .ok (.iload_n 2, 1) := by decide +kernel
theorem dX0_findReaches_40 : decode cX0_findReaches 40 = .ok (.invokevirtual 30, 3) := by decide +kernel
theorem dX0_findReaches_43 : decode cX0_findReaches 43 = .ok (.iastore, 1) := by decide +kernel
theorem dX0_findReaches_44 : decode cX0_findReaches 44 = .ok (.iinc 1 1, 3) := by decide +kernel
theorem dX0_findReaches_47 : decode cX0_findReaches 47 = .ok (.goto (-45), 3) := by decide +kernel
theorem dX0_findReaches_50 : decode cX0_findReaches 50 = .ok (.return_, 1) := by decide +kernel
set_option maxRecDepth 20000 in
theorem ggX0_leftWith_X1_gap : GoodIn wsX0_leftWith wsX1_gap := goodIn_r _ [15, 16, 19, 20, 21, 22, 23, 24] (by decide +kernel) (by decide +kernel)
set_option maxRecDepth 20000 in
theorem gX0_leftWith_X1_gap : GoodIn wsX0_leftWith (wsV RX0 30 RX1 yX1_gap wsX1_gap) := goodIn_app (goodIn_of _ (by decide +kernel)) ggX0_leftWith_X1_gap
theorem dX0_leftWith_0 : decode cX0_leftWith 0 = .ok (.iconst 0, 1) := by decide +kernel
theorem dX0_leftWith_1 : decode cX0_leftWith 1 = .ok (.istore_n 2, 1) := by decide +kernel
theorem dX0_leftWith_2 : decode cX0_leftWith 2 = .ok (.iconst 0, 1) := by decide +kernel
theorem dX0_leftWith_3 : decode cX0_leftWith 3 = .ok (.istore_n 3, 1) := by decide +kernel
theorem dX0_leftWith_4 : decode cX0_leftWith 4 = .ok (.iload_n 3, 1) := by decide +kernel
theorem dX0_leftWith_5 : decode cX0_leftWith 5 = .ok (.aload_n 0, 1) := by decide +kernel
theorem dX0_leftWith_6 : decode cX0_leftWith 6 = .ok (.getfield 15, 3) := by decide +kernel
theorem dX0_leftWith_9 : decode cX0_leftWith 9 = .ok (.getfield 20, 3) := by decide +kernel
theorem dX0_leftWith_12 : decode cX0_leftWith 12 = .ok (.if_icmp .ge 32, 3) := by decide +kernel
theorem dX0_leftWith_15 : decode cX0_leftWith 15 = .ok (.iload_n 2, 1) := by decide +kernel
theorem dX0_leftWith_16 : decode cX0_leftWith 16 = .ok (.aload_n 0, 1) := by decide +kernel
theorem dX0_leftWith_17 : decode cX0_leftWith 17 = .ok (.getfield 9, 3) := by decide +kernel
theorem dX0_leftWith_20 : decode cX0_leftWith 20 = .ok (.iload_n 3, 1) := by decide +kernel
theorem dX0_leftWith_21 : decode cX0_leftWith 21 = .ok (.iaload, 1) := by decide +kernel
theorem dX0_leftWith_22 : decode cX0_leftWith 22 = .ok (.aload_n 0, 1) := by decide +kernel
theorem dX0_leftWith_23 : decode cX0_leftWith 23 = .ok (.getfield 15, 3) := by decide +kernel
theorem dX0_leftWith_26 : decode cX0_leftWith 26 = .ok (.iload_n 3, 1) := by decide +kernel
theorem dX0_leftWith_27 : decode cX0_leftWith 27 = .ok (.iload_n 1, 1) := by decide +kernel
theorem dX0_leftWith_28 : decode cX0_leftWith 28 = .ok (.invokevirtual 30, 3) := by decide +kernel
theorem dX0_leftWith_31 : decode cX0_leftWith 31 = .ok (.invokestatic 50, 3) := by decide +kernel
theorem dX0_leftWith_34 : decode cX0_leftWith 34 = .ok (.invokestatic 55, 3) := by decide +kernel
theorem dX0_leftWith_37 : decode cX0_leftWith 37 = .ok (.istore_n 2, 1) := by decide +kernel
theorem dX0_leftWith_38 : decode cX0_leftWith 38 = .ok (.iinc 3 1, 3) := by decide +kernel
theorem dX0_leftWith_41 : decode cX0_leftWith 41 = .ok (.goto (-37), 3) := by decide +kernel
theorem dX0_leftWith_44 : decode cX0_leftWith 44 = .ok (.iload_n 2, 1) := by decide +kernel
theorem dX0_leftWith_45 : decode cX0_leftWith 45 = .ok (.ireturn, 1) := by decide +kernel
set_option maxRecDepth 20000 in
theorem ggX1_init_X1_empty : GoodIn wsX1_init wsX1_empty := goodIn_r _ [14, 15, 16, 5, 6, 8, 17, 18, 19, 20, 21, 22] (by decide +kernel) (by decide +kernel)
set_option maxRecDepth 20000 in
theorem gX1_init_X1_empty : GoodIn wsX1_init (wsV RX1 25 RX1 yX1_empty wsX1_empty) := goodIn_app (goodIn_of _ (by decide +kernel)) ggX1_init_X1_empty
theorem dX1_init_0 : decode cX1_init 0 = .ok (.aload_n 0, 1) := by decide +kernel
theorem dX1_init_1 : decode cX1_init 1 = .ok (.invokespecial 3, 3) := by decide +kernel
theorem dX1_init_4 : decode cX1_init 4 = .ok (.aload_n 0, 1) := by decide +kernel
theorem dX1_init_5 : decode cX1_init 5 = .ok (.bipush 60, 2) := by decide +kernel
theorem dX1_init_7 : decode cX1_init 7 = .ok (.newarray .int, 2) := by decide +kernel
theorem dX1_init_9 : decode cX1_init 9 = .ok (.putfield 9, 3) := by decide +kernel
theorem dX1_init_12 : decode cX1_init 12 = .ok (.aload_n 0, 1) := by decide +kernel
theorem dX1_init_13 : decode cX1_init 13 = .ok (.bipush 60, 2) := by decide +kernel
theorem dX1_init_15 : decode cX1_init 15 = .ok (.newarray .int, 2) := by decide +kernel
theorem dX1_init_17 : decode cX1_init 17 = .ok (.putfield 15, 3) := by decide +kernel
theorem dX1_init_20 : decode cX1_init 20 = .ok (.aload_n 0, 1) := by decide +kernel
theorem dX1_init_21 : decode cX1_init 21 = .ok (.bipush 60, 2) := by decide +kernel
theorem dX1_init_23 : decode cX1_init 23 = .ok (.newarray .boolean, 2) := by decide +kernel
theorem dX1_init_25 : decode cX1_init 25 = .ok (.putfield 18, 3) := by decide +kernel
theorem dX1_init_28 : decode cX1_init 28 = .ok (.aload_n 0, 1) := by decide +kernel
theorem dX1_init_29 : decode cX1_init 29 = .ok (.sipush 3600, 3) := by decide +kernel
theorem dX1_init_32 : decode cX1_init 32 = .ok (.newarray .int, 2) := by decide +kernel
theorem dX1_init_34 : decode cX1_init 34 = .ok (.putfield 22, 3) := by decide +kernel
theorem dX1_init_37 : decode cX1_init 37 = .ok (.aload_n 0, 1) := by decide +kernel
theorem dX1_init_38 : decode cX1_init 38 = .ok (.invokevirtual 25, 3) := by decide +kernel
theorem dX1_init_41 : decode cX1_init 41 = .ok (.pop, 1) := by decide +kernel
theorem dX1_init_42 : decode cX1_init 42 = .ok (.return_, 1) := by decide +kernel
theorem dX1_has_0 : decode cX1_has 0 = .ok (.iload_n 1, 1) := by decide +kernel
theorem dX1_has_1 : decode cX1_has 1 = .ok (.ifCond .lt 15, 3) := by decide +kernel
theorem dX1_has_4 : decode cX1_has 4 = .ok (.iload_n 1, 1) := by decide +kernel
theorem dX1_has_5 : decode cX1_has 5 = .ok (.aload_n 0, 1) := by decide +kernel
theorem dX1_has_6 : decode cX1_has 6 = .ok (.getfield 29, 3) := by decide +kernel
theorem dX1_has_9 : decode cX1_has 9 = .ok (.if_icmp .ge 7, 3) := by decide +kernel
theorem dX1_has_12 : decode cX1_has 12 = .ok (.iconst 1, 1) := by decide +kernel
theorem dX1_has_13 : decode cX1_has 13 = .ok (.goto 4, 3) := by decide +kernel
theorem dX1_has_16 : decode cX1_has 16 = .ok (.iconst 0, 1) := by decide +kernel
theorem dX1_has_17 : decode cX1_has 17 = .ok (.ireturn, 1) := by decide +kernel
theorem dX1_empty_0 : decode cX1_empty 0 = .ok (.aload_n 0, 1) := by decide +kernel
theorem dX1_empty_1 : decode cX1_empty 1 = .ok (.getfield 29, 3) := by decide +kernel
theorem dX1_empty_4 : decode cX1_empty 4 = .ok (.istore_n 1, 1) := by decide +kernel
theorem dX1_empty_5 : decode cX1_empty 5 = .ok (.aload_n 0, 1) := by decide +kernel
theorem dX1_empty_6 : decode cX1_empty 6 = .ok (.iconst 1, 1) := by decide +kernel
theorem dX1_empty_7 : decode cX1_empty 7 = .ok (.putfield 29, 3) := by decide +kernel
theorem dX1_empty_10 : decode cX1_empty 10 = .ok (.aload_n 0, 1) := by decide +kernel
theorem dX1_empty_11 : decode cX1_empty 11 = .ok (.iconst 0, 1) := by decide +kernel
theorem dX1_empty_12 : decode cX1_empty 12 = .ok (.putfield 33, 3) := by decide +kernel
theorem dX1_empty_15 : decode cX1_empty 15 = .ok (.aload_n 0, 1) := by decide +kernel
theorem dX1_empty_16 : decode cX1_empty 16 = .ok (.getfield 9, 3) := by decide +kernel
theorem dX1_empty_19 : decode cX1_empty 19 = .ok (.iconst 0, 1) := by decide +kernel
theorem dX1_empty_20 : decode cX1_empty 20 = .ok (.iconst (-1), 1) := by decide +kernel
theorem dX1_empty_21 : decode cX1_empty 21 = .ok (.iastore, 1) := by decide +kernel
theorem dX1_empty_22 : decode cX1_empty 22 = .ok (.aload_n 0, 1) := by decide +kernel
theorem dX1_empty_23 : decode cX1_empty 23 = .ok (.getfield 15, 3) := by decide +kernel
theorem dX1_empty_26 : decode cX1_empty 26 = .ok (.iconst 0, 1) := by decide +kernel
theorem dX1_empty_27 : decode cX1_empty 27 = .ok (.iconst 0, 1) := by decide +kernel
theorem dX1_empty_28 : decode cX1_empty 28 = .ok (.iastore, 1) := by decide +kernel
theorem dX1_empty_29 : decode cX1_empty 29 = .ok (.aload_n 0, 1) := by decide +kernel
theorem dX1_empty_30 : decode cX1_empty 30 = .ok (.getfield 18, 3) := by decide +kernel
theorem dX1_empty_33 : decode cX1_empty 33 = .ok (.iconst 0, 1) := by decide +kernel
theorem dX1_empty_34 : decode cX1_empty 34 = .ok (.iconst 0, 1) := by decide +kernel
theorem dX1_empty_35 : decode cX1_empty 35 = .ok (.bastore, 1) := by decide +kernel
theorem dX1_empty_36 : decode cX1_empty 36 = .ok (.iload_n 1, 1) := by decide +kernel
theorem dX1_empty_37 : decode cX1_empty 37 = .ok (.ireturn, 1) := by decide +kernel
set_option maxRecDepth 20000 in
theorem ggX1_settle_X1_has : GoodIn wsX1_settle wsX1_has := goodIn_r _ [9, 1, 19, 20, 21, 22, 23, 24] (by decide +kernel) (by decide +kernel)
set_option maxRecDepth 20000 in
theorem gX1_settle_X1_has : GoodIn wsX1_settle (wsV RX1 36 RX1 yX1_has wsX1_has) := goodIn_app (goodIn_of _ (by decide +kernel)) ggX1_settle_X1_has
set_option maxRecDepth 20000 in
theorem ggX1_settle_X1_measure : GoodIn wsX1_settle wsX1_measure := goodIn_r _ [13, 2, 3, 14, 5, 6, 7, 8, 9, 1, 15, 16, 17, 18, 19, 20, 21, 22, 23, 24] (by decide +kernel) (by decide +kernel)
set_option maxRecDepth 20000 in
theorem gX1_settle_X1_measure : GoodIn wsX1_settle (wsV RX1 40 RX1 yX1_measure wsX1_measure) := goodIn_app (goodIn_of _ (by decide +kernel)) ggX1_settle_X1_measure
theorem dX1_settle_0 : decode cX1_settle 0 = .ok (.aload_n 0, 1) := by decide +kernel
theorem dX1_settle_1 : decode cX1_settle 1 = .ok (.iload_n 1, 1) := by decide +kernel
theorem dX1_settle_2 : decode cX1_settle 2 = .ok (.invokevirtual 36, 3) := by decide +kernel
theorem dX1_settle_5 : decode cX1_settle 5 = .ok (.ifCond .eq 12, 3) := by decide +kernel
theorem dX1_settle_8 : decode cX1_settle 8 = .ok (.aload_n 0, 1) := by decide +kernel
theorem dX1_settle_9 : decode cX1_settle 9 = .ok (.getfield 29, 3) := by decide +kernel
theorem dX1_settle_12 : decode cX1_settle 12 = .ok (.bipush 60, 2) := by decide +kernel
theorem dX1_settle_14 : decode cX1_settle 14 = .ok (.if_icmp .lt 5, 3) := by decide +kernel
theorem dX1_settle_17 : decode cX1_settle 17 = .ok (.iconst (-1), 1) := by decide +kernel
theorem dX1_settle_18 : decode cX1_settle 18 = .ok (.ireturn, 1) := by decide +kernel
theorem dX1_settle_19 : decode cX1_settle 19 = .ok (.aload_n 0, 1) := by decide +kernel
theorem dX1_settle_20 : decode cX1_settle 20 = .ok (.getfield 29, 3) := by decide +kernel
theorem dX1_settle_23 : decode cX1_settle 23 = .ok (.istore_n 3, 1) := by decide +kernel
theorem dX1_settle_24 : decode cX1_settle 24 = .ok (.aload_n 0, 1) := by decide +kernel
theorem dX1_settle_25 : decode cX1_settle 25 = .ok (.dup, 1) := by decide +kernel
theorem dX1_settle_26 : decode cX1_settle 26 = .ok (.getfield 29, 3) := by decide +kernel
theorem dX1_settle_29 : decode cX1_settle 29 = .ok (.iconst 1, 1) := by decide +kernel
theorem dX1_settle_30 : decode cX1_settle 30 = .ok (.iadd, 1) := by decide +kernel
theorem dX1_settle_31 : decode cX1_settle 31 = .ok (.putfield 29, 3) := by decide +kernel
theorem dX1_settle_34 : decode cX1_settle 34 = .ok (.aload_n 0, 1) := by decide +kernel
theorem dX1_settle_35 : decode cX1_settle 35 = .ok (.getfield 9, 3) := by decide +kernel
theorem dX1_settle_38 : decode cX1_settle 38 = .ok (.iload_n 3, 1) := by decide +kernel
theorem dX1_settle_39 : decode cX1_settle 39 = .ok (.iload_n 1, 1) := by decide +kernel
theorem dX1_settle_40 : decode cX1_settle 40 = .ok (.iastore, 1) := by decide +kernel
theorem dX1_settle_41 : decode cX1_settle 41 = .ok (.aload_n 0, 1) := by decide +kernel
theorem dX1_settle_42 : decode cX1_settle 42 = .ok (.getfield 15, 3) := by decide +kernel
theorem dX1_settle_45 : decode cX1_settle 45 = .ok (.iload_n 3, 1) := by decide +kernel
theorem dX1_settle_46 : decode cX1_settle 46 = .ok (.iload_n 2, 1) := by decide +kernel
theorem dX1_settle_47 : decode cX1_settle 47 = .ok (.iastore, 1) := by decide +kernel
theorem dX1_settle_48 : decode cX1_settle 48 = .ok (.aload_n 0, 1) := by decide +kernel
theorem dX1_settle_49 : decode cX1_settle 49 = .ok (.getfield 18, 3) := by decide +kernel
theorem dX1_settle_52 : decode cX1_settle 52 = .ok (.iload_n 3, 1) := by decide +kernel
theorem dX1_settle_53 : decode cX1_settle 53 = .ok (.iconst 0, 1) := by decide +kernel
theorem dX1_settle_54 : decode cX1_settle 54 = .ok (.bastore, 1) := by decide +kernel
theorem dX1_settle_55 : decode cX1_settle 55 = .ok (.aload_n 0, 1) := by decide +kernel
theorem dX1_settle_56 : decode cX1_settle 56 = .ok (.iload_n 3, 1) := by decide +kernel
theorem dX1_settle_57 : decode cX1_settle 57 = .ok (.invokevirtual 40, 3) := by decide +kernel
theorem dX1_settle_60 : decode cX1_settle 60 = .ok (.iload_n 3, 1) := by decide +kernel
theorem dX1_settle_61 : decode cX1_settle 61 = .ok (.ireturn, 1) := by decide +kernel
theorem dX1_setDepot_0 : decode cX1_setDepot 0 = .ok (.aload_n 0, 1) := by decide +kernel
theorem dX1_setDepot_1 : decode cX1_setDepot 1 = .ok (.getfield 18, 3) := by decide +kernel
theorem dX1_setDepot_4 : decode cX1_setDepot 4 = .ok (.iload_n 1, 1) := by decide +kernel
theorem dX1_setDepot_5 : decode cX1_setDepot 5 = .ok (.baload, 1) := by decide +kernel
theorem dX1_setDepot_6 : decode cX1_setDepot 6 = .ok (.iload_n 2, 1) := by decide +kernel
theorem dX1_setDepot_7 : decode cX1_setDepot 7 = .ok (.if_icmp .ne 5, 3) := by decide +kernel
theorem dX1_setDepot_10 : decode cX1_setDepot 10 = .ok (.iconst 0, 1) := by decide +kernel
theorem dX1_setDepot_11 : decode cX1_setDepot 11 = .ok (.ireturn, 1) := by decide +kernel
theorem dX1_setDepot_12 : decode cX1_setDepot 12 = .ok (.aload_n 0, 1) := by decide +kernel
theorem dX1_setDepot_13 : decode cX1_setDepot 13 = .ok (.getfield 18, 3) := by decide +kernel
theorem dX1_setDepot_16 : decode cX1_setDepot 16 = .ok (.iload_n 1, 1) := by decide +kernel
theorem dX1_setDepot_17 : decode cX1_setDepot 17 = .ok (.iload_n 2, 1) := by decide +kernel
theorem dX1_setDepot_18 : decode cX1_setDepot 18 = .ok (.bastore, 1) := by decide +kernel
theorem dX1_setDepot_19 : decode cX1_setDepot 19 = .ok (.aload_n 0, 1) := by decide +kernel
theorem dX1_setDepot_20 : decode cX1_setDepot 20 = .ok (.dup, 1) := by decide +kernel
theorem dX1_setDepot_21 : decode cX1_setDepot 21 = .ok (.getfield 33, 3) := by decide +kernel
theorem dX1_setDepot_24 : decode cX1_setDepot 24 = .ok (.iload_n 2, 1) := by decide +kernel
theorem dX1_setDepot_25 : decode cX1_setDepot 25 = .ok (.ifCond .eq 7, 3) := by decide +kernel
theorem dX1_setDepot_28 : decode cX1_setDepot 28 = .ok (.iconst 1, 1) := by decide +kernel
theorem dX1_setDepot_29 : decode cX1_setDepot 29 = .ok (.goto 4, 3) := by decide +kernel
theorem dX1_setDepot_32 : decode cX1_setDepot 32 = .ok (.iconst (-1), 1) := by decide +kernel
theorem dX1_setDepot_33 : decode cX1_setDepot 33 = .ok (.iadd, 1) := by decide +kernel
theorem dX1_setDepot_34 : decode cX1_setDepot 34 = .ok (.putfield 33, 3) := by decide +kernel
theorem dX1_setDepot_37 : decode cX1_setDepot 37 = .ok (.iconst 1, 1) := by decide +kernel
theorem dX1_setDepot_38 : decode cX1_setDepot 38 = .ok (.ireturn, 1) := by decide +kernel
set_option maxRecDepth 20000 in
theorem ggX1_setRoad_X1_measure : GoodIn wsX1_setRoad wsX1_measure := goodIn_r _ [7, 8, 1, 9, 10, 11, 12, 6, 13, 2, 14, 15, 16, 17, 18, 19, 20, 21, 22, 23] (by decide +kernel) (by decide +kernel)
set_option maxRecDepth 20000 in
theorem gX1_setRoad_X1_measure : GoodIn wsX1_setRoad (wsV RX1 40 RX1 yX1_measure wsX1_measure) := goodIn_app (goodIn_of _ (by decide +kernel)) ggX1_setRoad_X1_measure
theorem dX1_setRoad_0 : decode cX1_setRoad 0 = .ok (.aload_n 0, 1) := by decide +kernel
theorem dX1_setRoad_1 : decode cX1_setRoad 1 = .ok (.getfield 15, 3) := by decide +kernel
theorem dX1_setRoad_4 : decode cX1_setRoad 4 = .ok (.iload_n 1, 1) := by decide +kernel
theorem dX1_setRoad_5 : decode cX1_setRoad 5 = .ok (.iaload, 1) := by decide +kernel
theorem dX1_setRoad_6 : decode cX1_setRoad 6 = .ok (.istore_n 3, 1) := by decide +kernel
theorem dX1_setRoad_7 : decode cX1_setRoad 7 = .ok (.aload_n 0, 1) := by decide +kernel
theorem dX1_setRoad_8 : decode cX1_setRoad 8 = .ok (.getfield 15, 3) := by decide +kernel
theorem dX1_setRoad_11 : decode cX1_setRoad 11 = .ok (.iload_n 1, 1) := by decide +kernel
theorem dX1_setRoad_12 : decode cX1_setRoad 12 = .ok (.iload_n 2, 1) := by decide +kernel
theorem dX1_setRoad_13 : decode cX1_setRoad 13 = .ok (.iastore, 1) := by decide +kernel
theorem dX1_setRoad_14 : decode cX1_setRoad 14 = .ok (.iload_n 1, 1) := by decide +kernel
theorem dX1_setRoad_15 : decode cX1_setRoad 15 = .ok (.istore 4, 2) := by decide +kernel
theorem dX1_setRoad_17 : decode cX1_setRoad 17 = .ok (.iload 4, 2) := by decide +kernel
theorem dX1_setRoad_19 : decode cX1_setRoad 19 = .ok (.aload_n 0, 1) := by decide +kernel
theorem dX1_setRoad_20 : decode cX1_setRoad 20 = .ok (.getfield 29, 3) := by decide +kernel
theorem dX1_setRoad_23 : decode cX1_setRoad 23 = .ok (.if_icmp .ge 15, 3) := by decide +kernel
theorem dX1_setRoad_26 : decode cX1_setRoad 26 = .ok (.aload_n 0, 1) := by decide +kernel
theorem dX1_setRoad_27 : decode cX1_setRoad 27 = .ok (.iload 4, 2) := by decide +kernel
theorem dX1_setRoad_29 : decode cX1_setRoad 29 = .ok (.invokevirtual 40, 3) := by decide +kernel
theorem dX1_setRoad_32 : decode cX1_setRoad 32 = .ok (.iinc 4 1, 3) := by decide +kernel
theorem dX1_setRoad_35 : decode cX1_setRoad 35 = .ok (.goto (-18), 3) := by decide +kernel
theorem dX1_setRoad_38 : decode cX1_setRoad 38 = .ok (.iload_n 3, 1) := by decide +kernel
theorem dX1_setRoad_39 : decode cX1_setRoad 39 = .ok (.ireturn, 1) := by decide +kernel
set_option maxRecDepth 20000 in
theorem ggX1_sow_X1_empty : GoodIn wsX1_sow wsX1_empty := goodIn_r _ [15, 1, 10, 16, 17, 18, 40, 41, 42, 43, 44, 45] (by decide +kernel) (by decide +kernel)
set_option maxRecDepth 20000 in
theorem gX1_sow_X1_empty : GoodIn wsX1_sow (wsV RX1 25 RX1 yX1_empty wsX1_empty) := goodIn_app (goodIn_of _ (by decide +kernel)) ggX1_sow_X1_empty
set_option maxRecDepth 20000 in
theorem ggX1_sow_X1_settle : GoodIn wsX1_sow wsX1_settle := goodIn_r _ [22, 1, 16, 17, 18, 23, 24, 25, 14, 26, 27, 28, 29, 30, 31, 32, 33, 34, 35, 40, 41, 42, 43, 44, 45] (by decide +kernel) (by decide +kernel)
set_option maxRecDepth 20000 in
theorem gX1_sow_X1_settle : GoodIn wsX1_sow (wsV RX1 56 RX1 yX1_settle wsX1_settle) := goodIn_app (goodIn_of _ (by decide +kernel)) ggX1_sow_X1_settle
set_option maxRecDepth 20000 in
theorem ggX1_sow_X1_has : GoodIn wsX1_sow wsX1_has := goodIn_r _ [26, 1, 40, 41, 42, 43, 44, 45] (by decide +kernel) (by decide +kernel)
set_option maxRecDepth 20000 in
theorem gX1_sow_X1_has : GoodIn wsX1_sow (wsV RX1 36 RX1 yX1_has wsX1_has) := goodIn_app (goodIn_of _ (by decide +kernel)) ggX1_sow_X1_has
set_option maxRecDepth 20000 in
theorem ggX1_sow_X1_setDepot : GoodIn wsX1_sow wsX1_setDepot := goodIn_r _ [39, 18, 10, 40, 41, 42, 43, 44, 45] (by decide +kernel) (by decide +kernel)
set_option maxRecDepth 20000 in
theorem gX1_sow_X1_setDepot : GoodIn wsX1_sow (wsV RX1 64 RX1 yX1_setDepot wsX1_setDepot) := goodIn_app (goodIn_of _ (by decide +kernel)) ggX1_sow_X1_setDepot
theorem dX1_sow_0 : decode cX1_sow 0 = .ok (.aload_n 0, 1) := by decide +kernel
theorem dX1_sow_1 : decode cX1_sow 1 = .ok (.invokevirtual 25, 3) := by decide +kernel
theorem dX1_sow_4 : decode cX1_sow 4 = .ok (.pop, 1) := by decide +kernel
theorem dX1_sow_5 : decode cX1_sow 5 = .ok (.iload_n 1, 1) := by decide +kernel
theorem dX1_sow_6 : decode cX1_sow 6 = .ok (.i2l, 1) := by decide +kernel
theorem dX1_sow_7 : decode cX1_sow 7 = .ok (.lstore_n 3, 1) := by decide +kernel
theorem dX1_sow_8 : decode cX1_sow 8 = .ok (.iconst 0, 1) := by decide +kernel
theorem dX1_sow_9 : decode cX1_sow 9 = .ok (.istore 5, 2) := by decide +kernel
theorem dX1_sow_11 : decode cX1_sow 11 = .ok (.iload 5, 2) := by decide +kernel
theorem dX1_sow_13 : decode cX1_sow 13 = .ok (.iload_n 2, 1) := by decide +kernel
theorem dX1_sow_14 : decode cX1_sow 14 = .ok (.if_icmp .ge 91, 3) := by decide +kernel
theorem dX1_sow_17 : decode cX1_sow 17 = .ok (.aload_n 0, 1) := by decide +kernel
theorem dX1_sow_18 : decode cX1_sow 18 = .ok (.getfield 29, 3) := by decide +kernel
theorem dX1_sow_21 : decode cX1_sow 21 = .ok (.ifCond .le 84, 3) := by decide +kernel
theorem dX1_sow_24 : decode cX1_sow 24 = .ok (.lload_n 3, 1) := by decide +kernel
theorem dX1_sow_25 : decode cX1_sow 25 = .ok (.ldc2_w 44, 3) := by decide +kernel
theorem dX1_sow_28 : decode cX1_sow 28 = .ok (.lmul, 1) := by decide +kernel
theorem dX1_sow_29 : decode cX1_sow 29 = .ok (.ldc2_w 46, 3) := by decide +kernel
theorem dX1_sow_32 : decode cX1_sow 32 = .ok (.ladd, 1) := by decide +kernel
theorem dX1_sow_33 : decode cX1_sow 33 = .ok (.ldc2_w 48, 3) := by decide +kernel
theorem dX1_sow_36 : decode cX1_sow 36 = .ok (.lrem, 1) := by decide +kernel
theorem dX1_sow_37 : decode cX1_sow 37 = .ok (.lstore_n 3, 1) := by decide +kernel
theorem dX1_sow_38 : decode cX1_sow 38 = .ok (.aload_n 0, 1) := by decide +kernel
theorem dX1_sow_39 : decode cX1_sow 39 = .ok (.lload_n 3, 1) := by decide +kernel
theorem dX1_sow_40 : decode cX1_sow 40 = .ok (.ldc2_w 50, 3) := by decide +kernel
theorem dX1_sow_43 : decode cX1_sow 43 = .ok (.ldiv, 1) := by decide +kernel
theorem dX1_sow_44 : decode cX1_sow 44 = .ok (.aload_n 0, 1) := by decide +kernel
theorem dX1_sow_45 : decode cX1_sow 45 = .ok (.getfield 29, 3) := by decide +kernel
theorem dX1_sow_48 : decode cX1_sow 48 = .ok (.i2l, 1) := by decide +kernel
theorem dX1_sow_49 : decode cX1_sow 49 = .ok (.lrem, 1) := by decide +kernel
theorem dX1_sow_50 : decode cX1_sow 50 = .ok (.l2i, 1) := by decide +kernel
theorem dX1_sow_51 : decode cX1_sow 51 = .ok (.lload_n 3, 1) := by decide +kernel
theorem dX1_sow_52 : decode cX1_sow 52 = .ok (.ldc2_w 52, 3) := by decide +kernel
theorem dX1_sow_55 : decode cX1_sow 55 = .ok (.ldiv, 1) := by decide +kernel
theorem dX1_sow_56 : decode cX1_sow 56 = .ok (.ldc2_w 54, 3) := by decide +kernel
theorem dX1_sow_59 : decode cX1_sow 59 = .ok (.lrem, 1) := by decide +kernel
theorem dX1_sow_60 : decode cX1_sow 60 = .ok (.l2i, 1) := by decide +kernel
theorem dX1_sow_61 : decode cX1_sow 61 = .ok (.iconst 1, 1) := by decide +kernel
theorem dX1_sow_62 : decode cX1_sow 62 = .ok (.iadd, 1) := by decide +kernel
theorem dX1_sow_63 : decode cX1_sow 63 = .ok (.invokevirtual 56, 3) := by decide +kernel
theorem dX1_sow_66 : decode cX1_sow 66 = .ok (.istore 6, 2) := by decide +kernel
theorem dX1_sow_68 : decode cX1_sow 68 = .ok (.aload_n 0, 1) := by decide +kernel
theorem dX1_sow_69 : decode cX1_sow 69 = .ok (.iload 6, 2) := by decide +kernel
theorem dX1_sow_71 : decode cX1_sow 71 = .ok (.invokevirtual 36, 3) := by decide +kernel
theorem dX1_sow_74 : decode cX1_sow 74 = .ok (.ifCond .eq 25, 3) := by decide +kernel
theorem dX1_sow_77 : decode cX1_sow 77 = .ok (.lload_n 3, 1) := by decide +kernel
theorem dX1_sow_78 : decode cX1_sow 78 = .ok (.ldc2_w 60, 3) := by decide +kernel
theorem dX1_sow_81 : decode cX1_sow 81 = .ok (.ldiv, 1) := by decide +kernel
theorem dX1_sow_82 : decode cX1_sow 82 = .ok (.ldc2_w 62, 3) := by decide +kernel
theorem dX1_sow_85 : decode cX1_sow 85 = .ok (.lrem, 1) := by decide +kernel
theorem dX1_sow_86 : decode cX1_sow 86 = .ok (.lconst 0, 1) := by decide +kernel
theorem dX1_sow_87 : decode cX1_sow 87 = .ok (.lcmp, 1) := by decide +kernel
theorem dX1_sow_88 : decode cX1_sow 88 = .ok (.ifCond .ne 11, 3) := by decide +kernel
theorem dX1_sow_91 : decode cX1_sow 91 = .ok (.aload_n 0, 1) := by decide +kernel
theorem dX1_sow_92 : decode cX1_sow 92 = .ok (.iload 6, 2) := by decide +kernel
theorem dX1_sow_94 : decode cX1_sow 94 = .ok (.iconst 1, 1) := by decide +kernel
theorem dX1_sow_95 : decode cX1_sow 95 = .ok (.invokevirtual 64, 3) := by decide +kernel
theorem dX1_sow_98 : decode cX1_sow 98 = .ok (.pop, 1) := by decide +kernel
theorem dX1_sow_99 : decode cX1_sow 99 = .ok (.iinc 5 1, 3) := by decide +kernel
theorem dX1_sow_102 : decode cX1_sow 102 = .ok (.goto (-91), 3) := by decide +kernel
theorem dX1_sow_105 : decode cX1_sow 105 = .ok (.aload_n 0, 1) := by decide +kernel
theorem dX1_sow_106 : decode cX1_sow 106 = .ok (.getfield 33, 3) := by decide +kernel
theorem dX1_sow_109 : decode cX1_sow 109 = .ok (.ireturn, 1) := by decide +kernel
set_option maxRecDepth 20000 in
theorem ggX1_aspect_X1_countRoads : GoodIn wsX1_aspect wsX1_countRoads := goodIn_r _ [8, 9, 1, 10, 11, 12, 13, 14, 15] (by decide +kernel) (by decide +kernel)
set_option maxRecDepth 20000 in
theorem gX1_aspect_X1_countRoads : GoodIn wsX1_aspect (wsV RX1 68 RX1 yX1_countRoads wsX1_countRoads) := goodIn_app (goodIn_of _ (by decide +kernel)) ggX1_aspect_X1_countRoads
theorem dX1_aspect_0 : decode cX1_aspect 0 = .ok (.iload_n 2, 1) := by decide +kernel
theorem dX1_aspect_1 : decode cX1_aspect 1 = .ok (.tableswitch 56 0 2 #[27, 34, 41], 27) := by decide +kernel
theorem dX1_aspect_28 : decode cX1_aspect 28 = .ok (.aload_n 0, 1) := by decide +kernel
theorem dX1_aspect_29 : decode cX1_aspect 29 = .ok (.getfield 9, 3) := by decide +kernel
theorem dX1_aspect_32 : decode cX1_aspect 32 = .ok (.iload_n 1, 1) := by decide +kernel
theorem dX1_aspect_33 : decode cX1_aspect 33 = .ok (.iaload, 1) := by decide +kernel
theorem dX1_aspect_34 : decode cX1_aspect 34 = .ok (.ireturn, 1) := by decide +kernel
theorem dX1_aspect_35 : decode cX1_aspect 35 = .ok (.aload_n 0, 1) := by decide +kernel
theorem dX1_aspect_36 : decode cX1_aspect 36 = .ok (.getfield 15, 3) := by decide +kernel
theorem dX1_aspect_39 : decode cX1_aspect 39 = .ok (.iload_n 1, 1) := by decide +kernel
theorem dX1_aspect_40 : decode cX1_aspect 40 = .ok (.iaload, 1) := by decide +kernel
theorem dX1_aspect_41 : decode cX1_aspect 41 = .ok (.ireturn, 1) := by decide +kernel
theorem dX1_aspect_42 : decode cX1_aspect 42 = .ok (.aload_n 0, 1) := by decide +kernel
theorem dX1_aspect_43 : decode cX1_aspect 43 = .ok (.getfield 18, 3) := by decide +kernel
theorem dX1_aspect_46 : decode cX1_aspect 46 = .ok (.iload_n 1, 1) := by decide +kernel
theorem dX1_aspect_47 : decode cX1_aspect 47 = .ok (.baload, 1) := by decide +kernel
theorem dX1_aspect_48 : decode cX1_aspect 48 = .ok (.ifCond .eq 7, 3) := by decide +kernel
theorem dX1_aspect_51 : decode cX1_aspect 51 = .ok (.iconst 1, 1) := by decide +kernel
theorem dX1_aspect_52 : decode cX1_aspect 52 = .ok (.goto 4, 3) := by decide +kernel
theorem dX1_aspect_55 : decode cX1_aspect 55 = .ok (.iconst 0, 1) := by decide +kernel
theorem dX1_aspect_56 : decode cX1_aspect 56 = .ok (.ireturn, 1) := by decide +kernel
theorem dX1_aspect_57 : decode cX1_aspect 57 = .ok (.aload_n 0, 1) := by decide +kernel
theorem dX1_aspect_58 : decode cX1_aspect 58 = .ok (.iload_n 1, 1) := by decide +kernel
theorem dX1_aspect_59 : decode cX1_aspect 59 = .ok (.invokevirtual 68, 3) := by decide +kernel
theorem dX1_aspect_62 : decode cX1_aspect 62 = .ok (.ireturn, 1) := by decide +kernel
theorem dX1_gap_0 : decode cX1_gap 0 = .ok (.aload_n 0, 1) := by decide +kernel
theorem dX1_gap_1 : decode cX1_gap 1 = .ok (.getfield 22, 3) := by decide +kernel
theorem dX1_gap_4 : decode cX1_gap 4 = .ok (.iload_n 1, 1) := by decide +kernel
theorem dX1_gap_5 : decode cX1_gap 5 = .ok (.bipush 60, 2) := by decide +kernel
theorem dX1_gap_7 : decode cX1_gap 7 = .ok (.imul, 1) := by decide +kernel
theorem dX1_gap_8 : decode cX1_gap 8 = .ok (.iload_n 2, 1) := by decide +kernel
theorem dX1_gap_9 : decode cX1_gap 9 = .ok (.iadd, 1) := by decide +kernel
theorem dX1_gap_10 : decode cX1_gap 10 = .ok (.iaload, 1) := by decide +kernel
theorem dX1_gap_11 : decode cX1_gap 11 = .ok (.ireturn, 1) := by decide +kernel
theorem dX1_countRoads_0 : decode cX1_countRoads 0 = .ok (.iload_n 1, 1) := by decide +kernel
theorem dX1_countRoads_1 : decode cX1_countRoads 1 = .ok (.ifCond .ne 7, 3) := by decide +kernel
theorem dX1_countRoads_4 : decode cX1_countRoads 4 = .ok (.iconst 0, 1) := by decide +kernel
theorem dX1_countRoads_5 : decode cX1_countRoads 5 = .ok (.goto 4, 3) := by decide +kernel
theorem dX1_countRoads_8 : decode cX1_countRoads 8 = .ok (.iconst 1, 1) := by decide +kernel
theorem dX1_countRoads_9 : decode cX1_countRoads 9 = .ok (.istore_n 2, 1) := by decide +kernel
theorem dX1_countRoads_10 : decode cX1_countRoads 10 = .ok (.iconst 1, 1) := by decide +kernel
theorem dX1_countRoads_11 : decode cX1_countRoads 11 = .ok (.istore_n 3, 1) := by decide +kernel
theorem dX1_countRoads_12 : decode cX1_countRoads 12 = .ok (.iload_n 3, 1) := by decide +kernel
theorem dX1_countRoads_13 : decode cX1_countRoads 13 = .ok (.aload_n 0, 1) := by decide +kernel
theorem dX1_countRoads_14 : decode cX1_countRoads 14 = .ok (.getfield 29, 3) := by decide +kernel
theorem dX1_countRoads_17 : decode cX1_countRoads 17 = .ok (.if_icmp .ge 22, 3) := by decide +kernel
theorem dX1_countRoads_20 : decode cX1_countRoads 20 = .ok (.aload_n 0, 1) := by decide +kernel
theorem dX1_countRoads_21 : decode cX1_countRoads 21 = .ok (.getfield 9, 3) := by decide +kernel
theorem dX1_countRoads_24 : decode cX1_countRoads 24 = .ok (.iload_n 3, 1) := by decide +kernel
theorem dX1_countRoads_25 : decode cX1_countRoads 25 = .ok (.iaload, 1) := by decide +kernel
theorem dX1_countRoads_26 : decode cX1_countRoads 26 = .ok (.iload_n 1, 1) := by decide +kernel
theorem dX1_countRoads_27 : decode cX1_countRoads 27 = .ok (.if_icmp .ne 6, 3) := by decide +kernel
theorem dX1_countRoads_30 : decode cX1_countRoads 30 = .ok (.iinc 2 1, 3) := by decide +kernel
theorem dX1_countRoads_33 : decode cX1_countRoads 33 = .ok (.iinc 3 1, 3) := by decide +kernel
theorem dX1_countRoads_36 : decode cX1_countRoads 36 = .ok (.goto (-24), 3) := by decide +kernel
theorem dX1_countRoads_39 : decode cX1_countRoads 39 = .ok (.iload_n 2, 1) := by decide +kernel
theorem dX1_countRoads_40 : decode cX1_countRoads 40 = .ok (.ireturn, 1) := by decide +kernel
set_option maxRecDepth 20000 in
theorem ggX1_measure_X1_has : GoodIn wsX1_measure wsX1_has := goodIn_r _ [8, 9, 14, 15, 16, 17, 18, 19] (by decide +kernel) (by decide +kernel)
set_option maxRecDepth 20000 in
theorem gX1_measure_X1_has : GoodIn wsX1_measure (wsV RX1 36 RX1 yX1_has wsX1_has) := goodIn_app (goodIn_of _ (by decide +kernel)) ggX1_measure_X1_has
set_option maxRecDepth 20000 in
theorem ggX1_measure_X1_gap : GoodIn wsX1_measure wsX1_gap := goodIn_r _ [13, 3, 14, 15, 16, 17, 18, 19] (by decide +kernel) (by decide +kernel)
set_option maxRecDepth 20000 in
theorem gX1_measure_X1_gap : GoodIn wsX1_measure (wsV RX1 72 RX1 yX1_gap wsX1_gap) := goodIn_app (goodIn_of _ (by decide +kernel)) ggX1_measure_X1_gap
theorem dX1_measure_0 : decode cX1_measure 0 = .ok (.aload_n 0, 1) := by decide +kernel
theorem dX1_measure_1 : decode cX1_measure 1 = .ok (.getfield 9, 3) := by decide +kernel
theorem dX1_measure_4 : decode cX1_measure 4 = .ok (.iload_n 1, 1) := by decide +kernel
theorem dX1_measure_5 : decode cX1_measure 5 = .ok (.iaload, 1) := by decide +kernel
theorem dX1_measure_6 : decode cX1_measure 6 = .ok (.istore_n 2, 1) := by decide +kernel
theorem dX1_measure_7 : decode cX1_measure 7 = .ok (.iconst 0, 1) := by decide +kernel
theorem dX1_measure_8 : decode cX1_measure 8 = .ok (.istore_n 3, 1) := by decide +kernel
theorem dX1_measure_9 : decode cX1_measure 9 = .ok (.iload_n 3, 1) := by decide +kernel
theorem dX1_measure_10 : decode cX1_measure 10 = .ok (.iload_n 1, 1) := by decide +kernel
theorem dX1_measure_11 : decode cX1_measure 11 = .ok (.if_icmp .ge 58, 3) := by decide +kernel
theorem dX1_measure_14 : decode cX1_measure 14 = .ok (.aload_n 0, 1) := by decide +kernel
theorem dX1_measure_15 : decode cX1_measure 15 = .ok (.iload_n 2, 1) := by decide +kernel
theorem dX1_measure_16 : decode cX1_measure 16 = .ok (.invokevirtual 36, 3) := by decide +kernel
theorem dX1_measure_19 : decode cX1_measure 19 = .ok (.ifCond .eq 50, 3) := by decide +kernel
theorem dX1_measure_22 : decode cX1_measure 22 = .ok (.aload_n 0, 1) := by decide +kernel
theorem dX1_measure_23 : decode cX1_measure 23 = .ok (.iload_n 2, 1) := by decide +kernel
theorem dX1_measure_24 : decode cX1_measure 24 = .ok (.iload_n 3, 1) := by decide +kernel
theorem dX1_measure_25 : decode cX1_measure 25 = .ok (.invokevirtual 72, 3) := by decide +kernel
theorem dX1_measure_28 : decode cX1_measure 28 = .ok (.aload_n 0, 1) := by decide +kernel
theorem dX1_measure_29 : decode cX1_measure 29 = .ok (.getfield 15, 3) := by decide +kernel
theorem dX1_measure_32 : decode cX1_measure 32 = .ok (.iload_n 1, 1) := by decide +kernel
theorem dX1_measure_33 : decode cX1_measure 33 = .ok (.iaload, 1) := by decide +kernel
theorem dX1_measure_34 : decode cX1_measure 34 = .ok (.iadd, 1) := by decide +kernel
theorem dX1_measure_35 : decode cX1_measure 35 = .ok (.istore 4, 2) := by decide +kernel
theorem dX1_measure_37 : decode cX1_measure 37 = .ok (.aload_n 0, 1) := by decide +kernel
theorem dX1_measure_38 : decode cX1_measure 38 = .ok (.getfield 22, 3) := by decide +kernel
theorem dX1_measure_41 : decode cX1_measure 41 = .ok (.iload_n 1, 1) := by decide +kernel
theorem dX1_measure_42 : decode cX1_measure 42 = .ok (.bipush 60, 2) := by decide +kernel
theorem dX1_measure_44 : decode cX1_measure 44 = .ok (.imul, 1) := by decide +kernel
theorem dX1_measure_45 : decode cX1_measure 45 = .ok (.iload_n 3, 1) := by decide +kernel
theorem dX1_measure_46 : decode cX1_measure 46 = .ok (.iadd, 1) := by decide +kernel
theorem dX1_measure_47 : decode cX1_measure 47 = .ok (.iload 4, 2) := by decide +kernel
theorem dX1_measure_49 : decode cX1_measure 49 = .ok (.iastore, 1) := by decide +kernel
theorem dX1_measure_50 : decode cX1_measure 50 = .ok (.aload_n 0, 1) := by decide +kernel
theorem dX1_measure_51 : decode cX1_measure 51 = .ok (.getfield 22, 3) := by decide +kernel
theorem dX1_measure_54 : decode cX1_measure 54 = .ok (.iload_n 3, 1) := by decide +kernel
theorem dX1_measure_55 : decode cX1_measure 55 = .ok (.bipush 60, 2) := by decide +kernel
theorem dX1_measure_57 : decode cX1_measure 57 = .ok (.imul, 1) := by decide +kernel
theorem dX1_measure_58 : decode cX1_measure 58 = .ok (.iload_n 1, 1) := by decide +kernel
theorem dX1_measure_59 : decode cX1_measure 59 = .ok (.iadd, 1) := by decide +kernel
theorem dX1_measure_60 : decode cX1_measure 60 = .ok (.iload 4, 2) := by decide +kernel
theorem dX1_measure_62 : decode cX1_measure 62 = .ok (.iastore, 1) := by decide +kernel
theorem dX1_measure_63 : decode cX1_measure 63 = .ok (.iinc 3 1, 3) := by decide +kernel
theorem dX1_measure_66 : decode cX1_measure 66 = .ok (.goto (-57), 3) := by decide +kernel
theorem dX1_measure_69 : decode cX1_measure 69 = .ok (.return_, 1) := by decide +kernel
theorem dX2_init_0 : decode cX2_init 0 = .ok (.aload_n 0, 1) := by decide +kernel
theorem dX2_init_1 : decode cX2_init 1 = .ok (.invokespecial 3, 3) := by decide +kernel
theorem dX2_init_4 : decode cX2_init 4 = .ok (.aload_n 0, 1) := by decide +kernel
theorem dX2_init_5 : decode cX2_init 5 = .ok (.sipush 400, 3) := by decide +kernel
theorem dX2_init_8 : decode cX2_init 8 = .ok (.newarray .byte, 2) := by decide +kernel
theorem dX2_init_10 : decode cX2_init 10 = .ok (.putfield 9, 3) := by decide +kernel
theorem dX2_init_13 : decode cX2_init 13 = .ok (.aload_n 0, 1) := by decide +kernel
theorem dX2_init_14 : decode cX2_init 14 = .ok (.iconst 0, 1) := by decide +kernel
theorem dX2_init_15 : decode cX2_init 15 = .ok (.putfield 15, 3) := by decide +kernel
theorem dX2_init_18 : decode cX2_init 18 = .ok (.return_, 1) := by decide +kernel
theorem dX2_empty_0 : decode cX2_empty 0 = .ok (.aload_n 0, 1) := by decide +kernel
theorem dX2_empty_1 : decode cX2_empty 1 = .ok (.iconst 0, 1) := by decide +kernel
theorem dX2_empty_2 : decode cX2_empty 2 = .ok (.putfield 15, 3) := by decide +kernel
theorem dX2_empty_5 : decode cX2_empty 5 = .ok (.return_, 1) := by decide +kernel
theorem dX2_put_0 : decode cX2_put 0 = .ok (.aload_n 0, 1) := by decide +kernel
theorem dX2_put_1 : decode cX2_put 1 = .ok (.getfield 15, 3) := by decide +kernel
theorem dX2_put_4 : decode cX2_put 4 = .ok (.sipush 400, 3) := by decide +kernel
theorem dX2_put_7 : decode cX2_put 7 = .ok (.if_icmp .ge 24, 3) := by decide +kernel
theorem dX2_put_10 : decode cX2_put 10 = .ok (.aload_n 0, 1) := by decide +kernel
theorem dX2_put_11 : decode cX2_put 11 = .ok (.getfield 9, 3) := by decide +kernel
theorem dX2_put_14 : decode cX2_put 14 = .ok (.aload_n 0, 1) := by decide +kernel
theorem dX2_put_15 : decode cX2_put 15 = .ok (.getfield 15, 3) := by decide +kernel
theorem dX2_put_18 : decode cX2_put 18 = .ok (.iload_n 1, 1) := by decide +kernel
theorem dX2_put_19 : decode cX2_put 19 = .ok (.i2b, 1) := by decide +kernel
theorem dX2_put_20 : decode cX2_put 20 = .ok (.bastore, 1) := by decide +kernel
theorem dX2_put_21 : decode cX2_put 21 = .ok (.aload_n 0, 1) := by decide +kernel
theorem dX2_put_22 : decode cX2_put 22 = .ok (.dup, 1) := by decide +kernel
theorem dX2_put_23 : decode cX2_put 23 = .ok (.getfield 15, 3) := by decide +kernel
theorem dX2_put_26 : decode cX2_put 26 = .ok (.iconst 1, 1) := by decide +kernel
theorem dX2_put_27 : decode cX2_put 27 = .ok (.iadd, 1) := by decide +kernel
theorem dX2_put_28 : decode cX2_put 28 = .ok (.putfield 15, 3) := by decide +kernel
theorem dX2_put_31 : decode cX2_put 31 = .ok (.return_, 1) := by decide +kernel
set_option maxRecDepth 20000 in
theorem ggX2_putNumber_X2_put : GoodIn wsX2_putNumber wsX2_put := goodIn_r _ [5, 6, 7, 8, 9] (by decide +kernel) (by decide +kernel)
set_option maxRecDepth 20000 in
theorem gX2_putNumber_X2_put : GoodIn wsX2_putNumber (wsV RX2 19 RX2 yX2_put wsX2_put) := goodIn_app (goodIn_of _ (by decide +kernel)) ggX2_putNumber_X2_put
theorem dX2_putNumber_0 : decode cX2_putNumber 0 = .ok (.iconst 1, 1) := by decide +kernel
theorem dX2_putNumber_1 : decode cX2_putNumber 1 = .ok (.istore_n 2, 1) := by decide +kernel
theorem dX2_putNumber_2 : decode cX2_putNumber 2 = .ok (.iconst 1, 1) := by decide +kernel
theorem dX2_putNumber_3 : decode cX2_putNumber 3 = .ok (.istore_n 3, 1) := by decide +kernel
theorem dX2_putNumber_4 : decode cX2_putNumber 4 = .ok (.iload_n 3, 1) := by decide +kernel
theorem dX2_putNumber_5 : decode cX2_putNumber 5 = .ok (.bipush 9, 2) := by decide +kernel
theorem dX2_putNumber_7 : decode cX2_putNumber 7 = .ok (.if_icmp .ge 22, 3) := by decide +kernel
theorem dX2_putNumber_10 : decode cX2_putNumber 10 = .ok (.iload_n 1, 1) := by decide +kernel
theorem dX2_putNumber_11 : decode cX2_putNumber 11 = .ok (.iload_n 2, 1) := by decide +kernel
theorem dX2_putNumber_12 : decode cX2_putNumber 12 = .ok (.idiv, 1) := by decide +kernel
theorem dX2_putNumber_13 : decode cX2_putNumber 13 = .ok (.bipush 10, 2) := by decide +kernel
theorem dX2_putNumber_15 : decode cX2_putNumber 15 = .ok (.if_icmp .lt 14, 3) := by decide +kernel
theorem dX2_putNumber_18 : decode cX2_putNumber 18 = .ok (.iload_n 2, 1) := by decide +kernel
theorem dX2_putNumber_19 : decode cX2_putNumber 19 = .ok (.bipush 10, 2) := by decide +kernel
theorem dX2_putNumber_21 : decode cX2_putNumber 21 = .ok (.imul, 1) := by decide +kernel
theorem dX2_putNumber_22 : decode cX2_putNumber 22 = .ok (.istore_n 2, 1) := by decide +kernel
theorem dX2_putNumber_23 : decode cX2_putNumber 23 = .ok (.iinc 3 1, 3) := by decide +kernel
theorem dX2_putNumber_26 : decode cX2_putNumber 26 = .ok (.goto (-22), 3) := by decide +kernel
theorem dX2_putNumber_29 : decode cX2_putNumber 29 = .ok (.iload_n 2, 1) := by decide +kernel
theorem dX2_putNumber_30 : decode cX2_putNumber 30 = .ok (.istore_n 3, 1) := by decide +kernel
theorem dX2_putNumber_31 : decode cX2_putNumber 31 = .ok (.iload_n 3, 1) := by decide +kernel
theorem dX2_putNumber_32 : decode cX2_putNumber 32 = .ok (.ifCond .le 24, 3) := by decide +kernel
theorem dX2_putNumber_35 : decode cX2_putNumber 35 = .ok (.aload_n 0, 1) := by decide +kernel
theorem dX2_putNumber_36 : decode cX2_putNumber 36 = .ok (.bipush 48, 2) := by decide +kernel
theorem dX2_putNumber_38 : decode cX2_putNumber 38 = .ok (.iload_n 1, 1) := by decide +kernel
theorem dX2_putNumber_39 : decode cX2_putNumber 39 = .ok (.iload_n 3, 1) := by decide +kernel
theorem dX2_putNumber_40 : decode cX2_putNumber 40 = .ok (.idiv, 1) := by decide +kernel
theorem dX2_putNumber_41 : decode cX2_putNumber 41 = .ok (.bipush 10, 2) := by decide +kernel
theorem dX2_putNumber_43 : decode cX2_putNumber 43 = .ok (.irem, 1) := by decide +kernel
theorem dX2_putNumber_44 : decode cX2_putNumber 44 = .ok (.iadd, 1) := by decide +kernel
theorem dX2_putNumber_45 : decode cX2_putNumber 45 = .ok (.invokevirtual 19, 3) := by decide +kernel
theorem dX2_putNumber_48 : decode cX2_putNumber 48 = .ok (.iload_n 3, 1) := by decide +kernel
theorem dX2_putNumber_49 : decode cX2_putNumber 49 = .ok (.bipush 10, 2) := by decide +kernel
theorem dX2_putNumber_51 : decode cX2_putNumber 51 = .ok (.idiv, 1) := by decide +kernel
theorem dX2_putNumber_52 : decode cX2_putNumber 52 = .ok (.istore_n 3, 1) := by decide +kernel
theorem dX2_putNumber_53 : decode cX2_putNumber 53 = .ok (.goto (-22), 3) := by decide +kernel
theorem dX2_putNumber_56 : decode cX2_putNumber 56 = .ok (.return_, 1) := by decide +kernel
theorem dX3_init_0 : decode cX3_init 0 = .ok (.aload_n 0, 1) := by decide +kernel
theorem dX3_init_1 : decode cX3_init 1 = .ok (.invokespecial 3, 3) := by decide +kernel
theorem dX3_init_4 : decode cX3_init 4 = .ok (.aload_n 0, 1) := by decide +kernel
theorem dX3_init_5 : decode cX3_init 5 = .ok (.bipush 30, 2) := by decide +kernel
theorem dX3_init_7 : decode cX3_init 7 = .ok (.newarray .int, 2) := by decide +kernel
theorem dX3_init_9 : decode cX3_init 9 = .ok (.putfield 9, 3) := by decide +kernel
theorem dX3_init_12 : decode cX3_init 12 = .ok (.aload_n 0, 1) := by decide +kernel
theorem dX3_init_13 : decode cX3_init 13 = .ok (.bipush 30, 2) := by decide +kernel
theorem dX3_init_15 : decode cX3_init 15 = .ok (.newarray .int, 2) := by decide +kernel
theorem dX3_init_17 : decode cX3_init 17 = .ok (.putfield 15, 3) := by decide +kernel
theorem dX3_init_20 : decode cX3_init 20 = .ok (.aload_n 0, 1) := by decide +kernel
theorem dX3_init_21 : decode cX3_init 21 = .ok (.bipush 30, 2) := by decide +kernel
theorem dX3_init_23 : decode cX3_init 23 = .ok (.newarray .int, 2) := by decide +kernel
theorem dX3_init_25 : decode cX3_init 25 = .ok (.putfield 18, 3) := by decide +kernel
theorem dX3_init_28 : decode cX3_init 28 = .ok (.aload_n 0, 1) := by decide +kernel
theorem dX3_init_29 : decode cX3_init 29 = .ok (.aload_n 1, 1) := by decide +kernel
theorem dX3_init_30 : decode cX3_init 30 = .ok (.putfield 21, 3) := by decide +kernel
theorem dX3_init_33 : decode cX3_init 33 = .ok (.return_, 1) := by decide +kernel
set_option maxRecDepth 20000 in
theorem ggX3_read_X3_readSentence : GoodIn wsX3_read wsX3_readSentence := goodIn_r _ [11, 3, 12, 13, 14, 10, 15, 2, 5, 6, 4, 16, 17, 18, 19, 20, 21, 22, 23, 24, 25, 26, 27, 28, 29, 30, 31, 32, 33, 34, 35, 36, 37, 38, 39, 40, 41, 42, 43, 44, 45, 46, 47, 48, 49, 50, 51, 52, 53, 54, 55, 56, 57, 58, 59, 60, 61, 62, 63, 64, 65, 66, 67, 68, 69, 70, 71, 72, 73, 74, 75, 76, 77, 78, 79, 80, 81, 82, 83, 84, 85, 86, 87, 88, 89, 90, 91, 92, 93, 94, 95, 96, 97, 98, 99, 100, 101, 102, 103, 104, 105, 106, 107, 108, 109, 110, 111, 112, 113, 114, 115, 116, 117, 118, 119, 120, 121, 1, 122, 123, 124, 125, 126, 127, 128, 129, 130, 131, 132, 133, 134] (by decide +kernel) (by decide +kernel)
set_option maxRecDepth 20000 in
theorem gX3_read_X3_readSentence : GoodIn wsX3_read (wsV RX3 43 RX3 yX3_readSentence wsX3_readSentence) := goodIn_app (goodIn_of _ (by decide +kernel)) ggX3_read_X3_readSentence
set_option maxRecDepth 20000 in
theorem ggX3_read_X3_skipBlanks : GoodIn wsX3_read wsX3_skipBlanks := goodIn_r _ [19, 2, 5, 6, 20, 21, 22, 23, 24, 25, 26, 125, 126, 127, 128, 129, 130, 131, 132, 133, 134] (by decide +kernel) (by decide +kernel)
set_option maxRecDepth 20000 in
theorem gX3_read_X3_skipBlanks : GoodIn wsX3_read (wsV RX3 46 RX3 yX3_skipBlanks wsX3_skipBlanks) := goodIn_app (goodIn_of _ (by decide +kernel)) ggX3_read_X3_skipBlanks
theorem dX3_read_0 : decode cX3_read 0 = .ok (.aload_n 0, 1) := by decide +kernel
theorem dX3_read_1 : decode cX3_read 1 = .ok (.iconst 0, 1) := by decide +kernel
theorem dX3_read_2 : decode cX3_read 2 = .ok (.putfield 25, 3) := by decide +kernel
theorem dX3_read_5 : decode cX3_read 5 = .ok (.aload_n 0, 1) := by decide +kernel
theorem dX3_read_6 : decode cX3_read 6 = .ok (.iconst 0, 1) := by decide +kernel
theorem dX3_read_7 : decode cX3_read 7 = .ok (.putfield 29, 3) := by decide +kernel
theorem dX3_read_10 : decode cX3_read 10 = .ok (.aload_n 0, 1) := by decide +kernel
theorem dX3_read_11 : decode cX3_read 11 = .ok (.iconst (-1), 1) := by decide +kernel
theorem dX3_read_12 : decode cX3_read 12 = .ok (.putfield 32, 3) := by decide +kernel
theorem dX3_read_15 : decode cX3_read 15 = .ok (.aload_n 0, 1) := by decide +kernel
theorem dX3_read_16 : decode cX3_read 16 = .ok (.iload_n 1, 1) := by decide +kernel
theorem dX3_read_17 : decode cX3_read 17 = .ok (.putfield 35, 3) := by decide +kernel
theorem dX3_read_20 : decode cX3_read 20 = .ok (.iconst 0, 1) := by decide +kernel
theorem dX3_read_21 : decode cX3_read 21 = .ok (.istore_n 2, 1) := by decide +kernel
theorem dX3_read_22 : decode cX3_read 22 = .ok (.iload_n 2, 1) := by decide +kernel
theorem dX3_read_23 : decode cX3_read 23 = .ok (.bipush 30, 2) := by decide +kernel
theorem dX3_read_25 : decode cX3_read 25 = .ok (.if_icmp .ge 43, 3) := by decide +kernel
theorem dX3_read_28 : decode cX3_read 28 = .ok (.aload_n 0, 1) := by decide +kernel
theorem dX3_read_29 : decode cX3_read 29 = .ok (.getfield 32, 3) := by decide +kernel
theorem dX3_read_32 : decode cX3_read 32 = .ok (.iconst (-1), 1) := by decide +kernel
theorem dX3_read_33 : decode cX3_read 33 = .ok (.if_icmp .ne 35, 3) := by decide +kernel
theorem dX3_read_36 : decode cX3_read 36 = .ok (.iload_n 2, 1) := by decide +kernel
theorem dX3_read_37 : decode cX3_read 37 = .ok (.ifCond .eq 17, 3) := by decide +kernel
theorem dX3_read_40 : decode cX3_read 40 = .ok (.aload_n 0, 1) := by decide +kernel
theorem dX3_read_41 : decode cX3_read 41 = .ok (.getfield 29, 3) := by decide +kernel
theorem dX3_read_44 : decode cX3_read 44 = .ok (.aload_n 0, 1) := by decide +kernel
theorem dX3_read_45 : decode cX3_read 45 = .ok (.getfield 21, 3) := by decide +kernel
theorem dX3_read_48 : decode cX3_read 48 = .ok (.getfield 38, 3) := by decide +kernel
theorem dX3_read_51 : decode cX3_read 51 = .ok (.if_icmp .ge 17, 3) := by decide +kernel
theorem dX3_read_54 : decode cX3_read 54 = .ok (.aload_n 0, 1) := by decide +kernel
theorem dX3_read_55 : decode cX3_read 55 = .ok (.invokevirtual 43, 3) := by decide +kernel
theorem dX3_read_58 : decode cX3_read 58 = .ok (.aload_n 0, 1) := by decide +kernel
theorem dX3_read_59 : decode cX3_read 59 = .ok (.invokevirtual 46, 3) := by decide +kernel
theorem dX3_read_62 : decode cX3_read 62 = .ok (.iinc 2 1, 3) := by decide +kernel
theorem dX3_read_65 : decode cX3_read 65 = .ok (.goto (-43), 3) := by decide +kernel
theorem dX3_read_68 : decode cX3_read 68 = .ok (.aload_n 0, 1) := by decide +kernel
theorem dX3_read_69 : decode cX3_read 69 = .ok (.getfield 32, 3) := by decide +kernel
theorem dX3_read_72 : decode cX3_read 72 = .ok (.ireturn, 1) := by decide +kernel
set_option maxRecDepth 20000 in
theorem ggX3_readSentence_X3_readWord : GoodIn wsX3_readSentence wsX3_readWord := goodIn_r _ [6, 7, 8, 9, 10, 1, 11, 12, 13, 5, 14, 15, 16, 17, 18, 19, 20, 21, 22, 23, 24, 25, 26, 27, 28, 29, 30, 31, 32, 33, 34, 35, 36, 37, 38, 39, 40, 41, 42, 43, 44, 45, 46, 47, 48, 49, 50, 51, 52, 53, 54, 55, 56, 57, 58, 59, 60, 61, 62, 63, 64, 65, 66, 67, 68, 69, 70, 71, 72, 73, 74, 75, 76, 77, 78, 79, 80, 81, 82, 83, 84, 85, 86, 121, 122, 123, 124, 125, 126, 127, 128, 129, 130] (by decide +kernel) (by decide +kernel)
set_option maxRecDepth 20000 in
theorem gX3_readSentence_X3_readWord : GoodIn wsX3_readSentence (wsV RX3 49 RX3 yX3_readWord wsX3_readWord) := goodIn_app (goodIn_of _ (by decide +kernel)) ggX3_readSentence_X3_readWord
set_option maxRecDepth 20000 in
theorem ggX3_readSentence_X7_firstNeed : GoodIn wsX3_readSentence wsX7_firstNeed := goodIn_r _ [89, 90] (by decide +kernel) (by decide +kernel)
set_option maxRecDepth 20000 in
theorem gX3_readSentence_X7_firstNeed : GoodIn wsX3_readSentence (va_wsS RX3 53 yX7_firstNeed wsX7_firstNeed) := goodIn_app (goodIn_of _ (by decide +kernel)) ggX3_readSentence_X7_firstNeed
set_option maxRecDepth 20000 in
theorem ggX3_readSentence_X3_readNumber : GoodIn wsX3_readSentence wsX3_readNumber := goodIn_r _ [94, 1, 7, 8, 9, 10, 11, 12, 13, 5, 14, 15, 16, 17, 18, 19, 20, 21, 95, 96, 97, 98, 26, 99, 100, 29, 101, 102, 103, 104, 121, 122, 123, 124, 125, 126, 127, 128, 129, 130] (by decide +kernel) (by decide +kernel)
set_option maxRecDepth 20000 in
theorem gX3_readSentence_X3_readNumber : GoodIn wsX3_readSentence (wsV RX3 59 RX3 yX3_readNumber wsX3_readNumber) := goodIn_app (goodIn_of _ (by decide +kernel)) ggX3_readSentence_X3_readNumber
set_option maxRecDepth 20000 in
theorem ggX3_readSentence_X7_secondNeed : GoodIn wsX3_readSentence wsX7_secondNeed := goodIn_r _ [107, 108] (by decide +kernel) (by decide +kernel)
set_option maxRecDepth 20000 in
theorem gX3_readSentence_X7_secondNeed : GoodIn wsX3_readSentence (va_wsS RX3 62 yX7_secondNeed wsX7_secondNeed) := goodIn_app (goodIn_of _ (by decide +kernel)) ggX3_readSentence_X7_secondNeed
set_option maxRecDepth 20000 in
theorem ggX3_readSentence_X3_readEnd : GoodIn wsX3_readSentence wsX3_readEnd := goodIn_r _ [112, 1, 8, 7, 11, 12, 13, 5, 14, 9, 15, 16, 17, 18, 19, 20, 21, 121, 122, 123, 124, 125, 126, 127, 128, 129, 130] (by decide +kernel) (by decide +kernel)
set_option maxRecDepth 20000 in
theorem gX3_readSentence_X3_readEnd : GoodIn wsX3_readSentence (wsV RX3 65 RX3 yX3_readEnd wsX3_readEnd) := goodIn_app (goodIn_of _ (by decide +kernel)) ggX3_readSentence_X3_readEnd
set_option maxRecDepth 20000 in
theorem ggX3_readSentence_X3_keep : GoodIn wsX3_readSentence wsX3_keep := goodIn_r _ [116, 117, 118, 119, 120, 10, 121, 122, 123, 124, 125, 126, 127, 128] (by decide +kernel) (by decide +kernel)
set_option maxRecDepth 20000 in
theorem gX3_readSentence_X3_keep : GoodIn wsX3_readSentence (wsV RX3 68 RX3 yX3_keep wsX3_keep) := goodIn_app (goodIn_of _ (by decide +kernel)) ggX3_readSentence_X3_keep
theorem dX3_readSentence_0 : decode cX3_readSentence 0 = .ok (.aload_n 0, 1) := by decide +kernel
theorem dX3_readSentence_1 : decode cX3_readSentence 1 = .ok (.invokevirtual 49, 3) := by decide +kernel
theorem dX3_readSentence_4 : decode cX3_readSentence 4 = .ok (.istore_n 1, 1) := by decide +kernel
theorem dX3_readSentence_5 : decode cX3_readSentence 5 = .ok (.aload_n 0, 1) := by decide +kernel
theorem dX3_readSentence_6 : decode cX3_readSentence 6 = .ok (.iload_n 1, 1) := by decide +kernel
theorem dX3_readSentence_7 : decode cX3_readSentence 7 = .ok (.invokestatic 53, 3) := by decide +kernel
theorem dX3_readSentence_10 : decode cX3_readSentence 10 = .ok (.invokevirtual 59, 3) := by decide +kernel
theorem dX3_readSentence_13 : decode cX3_readSentence 13 = .ok (.istore_n 2, 1) := by decide +kernel
theorem dX3_readSentence_14 : decode cX3_readSentence 14 = .ok (.aload_n 0, 1) := by decide +kernel
theorem dX3_readSentence_15 : decode cX3_readSentence 15 = .ok (.iload_n 1, 1) := by decide +kernel
theorem dX3_readSentence_16 : decode cX3_readSentence 16 = .ok (.invokestatic 62, 3) := by decide +kernel
theorem dX3_readSentence_19 : decode cX3_readSentence 19 = .ok (.invokevirtual 59, 3) := by decide +kernel
theorem dX3_readSentence_22 : decode cX3_readSentence 22 = .ok (.istore_n 3, 1) := by decide +kernel
theorem dX3_readSentence_23 : decode cX3_readSentence 23 = .ok (.aload_n 0, 1) := by decide +kernel
theorem dX3_readSentence_24 : decode cX3_readSentence 24 = .ok (.invokevirtual 65, 3) := by decide +kernel
theorem dX3_readSentence_27 : decode cX3_readSentence 27 = .ok (.aload_n 0, 1) := by decide +kernel
theorem dX3_readSentence_28 : decode cX3_readSentence 28 = .ok (.getfield 32, 3) := by decide +kernel
theorem dX3_readSentence_31 : decode cX3_readSentence 31 = .ok (.iconst (-1), 1) := by decide +kernel
theorem dX3_readSentence_32 : decode cX3_readSentence 32 = .ok (.if_icmp .ne 10, 3) := by decide +kernel
theorem dX3_readSentence_35 : decode cX3_readSentence 35 = .ok (.aload_n 0, 1) := by decide +kernel
theorem dX3_readSentence_36 : decode cX3_readSentence 36 = .ok (.iload_n 1, 1) := by decide +kernel
theorem dX3_readSentence_37 : decode cX3_readSentence 37 = .ok (.iload_n 2, 1) := by decide +kernel
theorem dX3_readSentence_38 : decode cX3_readSentence 38 = .ok (.iload_n 3, 1) := by decide +kernel
theorem dX3_readSentence_39 : decode cX3_readSentence 39 = .ok (.invokevirtual 68, 3) := by decide +kernel
theorem dX3_readSentence_42 : decode cX3_readSentence 42 = .ok (.return_, 1) := by decide +kernel
set_option maxRecDepth 20000 in
theorem ggX3_readWord_X3_skipBlanks : GoodIn wsX3_readWord wsX3_skipBlanks := goodIn_r _ [10, 1, 2, 3, 11, 12, 13, 14, 15, 16, 17, 83, 84, 85, 86, 87, 88, 89, 90, 91, 92] (by decide +kernel) (by decide +kernel)
set_option maxRecDepth 20000 in
theorem gX3_readWord_X3_skipBlanks : GoodIn wsX3_readWord (wsV RX3 46 RX3 yX3_skipBlanks wsX3_skipBlanks) := goodIn_app (goodIn_of _ (by decide +kernel)) ggX3_readWord_X3_skipBlanks
set_option maxRecDepth 20000 in
theorem ggX3_readWord_X5_isLetter : GoodIn wsX3_readWord wsX5_isLetter := goodIn_r _ [21, 22, 12, 13, 14, 15, 16, 17, 91, 92] (by decide +kernel) (by decide +kernel)
set_option maxRecDepth 20000 in
theorem gX3_readWord_X5_isLetter : GoodIn wsX3_readWord (wsV RX3 72 RX5 yX5_isLetter wsX5_isLetter) := goodIn_app (goodIn_of _ (by decide +kernel)) ggX3_readWord_X5_isLetter
set_option maxRecDepth 20000 in
theorem ggX3_readWord_X7_find : GoodIn wsX3_readWord wsX7_find := goodIn_r _ [26, 27, 28, 25, 29, 30, 31, 32, 14, 33, 34, 35, 36, 37, 38, 39, 40, 41, 42, 43, 44, 45, 22, 12, 13, 15, 16, 17, 46, 47, 48, 49, 50, 51, 52, 53, 54, 55, 56, 57, 58, 59, 60, 61, 62, 63, 64, 65, 66, 67, 68, 69, 70, 71, 72, 73, 74, 75, 76, 77, 78, 79, 80, 81, 82, 91, 92] (by decide +kernel) (by decide +kernel)
set_option maxRecDepth 20000 in
theorem gX3_readWord_X7_find : GoodIn wsX3_readWord (va_wsS RX3 76 yX7_find wsX7_find) := goodIn_app (goodIn_of _ (by decide +kernel)) ggX3_readWord_X7_find
theorem dX3_readWord_0 : decode cX3_readWord 0 = .ok (.aload_n 0, 1) := by decide +kernel
theorem dX3_readWord_1 : decode cX3_readWord 1 = .ok (.invokevirtual 46, 3) := by decide +kernel
theorem dX3_readWord_4 : decode cX3_readWord 4 = .ok (.aload_n 0, 1) := by decide +kernel
theorem dX3_readWord_5 : decode cX3_readWord 5 = .ok (.getfield 29, 3) := by decide +kernel
theorem dX3_readWord_8 : decode cX3_readWord 8 = .ok (.istore_n 1, 1) := by decide +kernel
theorem dX3_readWord_9 : decode cX3_readWord 9 = .ok (.aload_n 0, 1) := by decide +kernel
theorem dX3_readWord_10 : decode cX3_readWord 10 = .ok (.getfield 29, 3) := by decide +kernel
theorem dX3_readWord_13 : decode cX3_readWord 13 = .ok (.aload_n 0, 1) := by decide +kernel
theorem dX3_readWord_14 : decode cX3_readWord 14 = .ok (.getfield 21, 3) := by decide +kernel
theorem dX3_readWord_17 : decode cX3_readWord 17 = .ok (.getfield 38, 3) := by decide +kernel
theorem dX3_readWord_20 : decode cX3_readWord 20 = .ok (.if_icmp .ge 30, 3) := by decide +kernel
theorem dX3_readWord_23 : decode cX3_readWord 23 = .ok (.aload_n 0, 1) := by decide +kernel
theorem dX3_readWord_24 : decode cX3_readWord 24 = .ok (.getfield 21, 3) := by decide +kernel
theorem dX3_readWord_27 : decode cX3_readWord 27 = .ok (.aload_n 0, 1) := by decide +kernel
theorem dX3_readWord_28 : decode cX3_readWord 28 = .ok (.getfield 29, 3) := by decide +kernel
theorem dX3_readWord_31 : decode cX3_readWord 31 = .ok (.invokevirtual 72, 3) := by decide +kernel
theorem dX3_readWord_34 : decode cX3_readWord 34 = .ok (.ifCond .eq 16, 3) := by decide +kernel
theorem dX3_readWord_37 : decode cX3_readWord 37 = .ok (.aload_n 0, 1) := by decide +kernel
theorem dX3_readWord_38 : decode cX3_readWord 38 = .ok (.dup, 1) := by decide +kernel
theorem dX3_readWord_39 : decode cX3_readWord 39 = .ok (.getfield 29, 3) := by decide +kernel
theorem dX3_readWord_42 : decode cX3_readWord 42 = .ok (.iconst 1, 1) := by decide +kernel
theorem dX3_readWord_43 : decode cX3_readWord 43 = .ok (.iadd, 1) := by decide +kernel
theorem dX3_readWord_44 : decode cX3_readWord 44 = .ok (.putfield 29, 3) := by decide +kernel
theorem dX3_readWord_47 : decode cX3_readWord 47 = .ok (.goto (-38), 3) := by decide +kernel
theorem dX3_readWord_50 : decode cX3_readWord 50 = .ok (.aload_n 0, 1) := by decide +kernel
theorem dX3_readWord_51 : decode cX3_readWord 51 = .ok (.getfield 21, 3) := by decide +kernel
theorem dX3_readWord_54 : decode cX3_readWord 54 = .ok (.iload_n 1, 1) := by decide +kernel
theorem dX3_readWord_55 : decode cX3_readWord 55 = .ok (.aload_n 0, 1) := by decide +kernel
theorem dX3_readWord_56 : decode cX3_readWord 56 = .ok (.getfield 29, 3) := by decide +kernel
theorem dX3_readWord_59 : decode cX3_readWord 59 = .ok (.invokestatic 76, 3) := by decide +kernel
theorem dX3_readWord_62 : decode cX3_readWord 62 = .ok (.istore_n 2, 1) := by decide +kernel
theorem dX3_readWord_63 : decode cX3_readWord 63 = .ok (.iload_n 2, 1) := by decide +kernel
theorem dX3_readWord_64 : decode cX3_readWord 64 = .ok (.iconst (-1), 1) := by decide +kernel
theorem dX3_readWord_65 : decode cX3_readWord 65 = .ok (.if_icmp .eq 16, 3) := by decide +kernel
theorem dX3_readWord_68 : decode cX3_readWord 68 = .ok (.iload_n 2, 1) := by decide +kernel
theorem dX3_readWord_69 : decode cX3_readWord 69 = .ok (.ifCond .ne 17, 3) := by decide +kernel
theorem dX3_readWord_72 : decode cX3_readWord 72 = .ok (.aload_n 0, 1) := by decide +kernel
theorem dX3_readWord_73 : decode cX3_readWord 73 = .ok (.getfield 35, 3) := by decide +kernel
theorem dX3_readWord_76 : decode cX3_readWord 76 = .ok (.bipush 60, 2) := by decide +kernel
theorem dX3_readWord_78 : decode cX3_readWord 78 = .ok (.if_icmp .lt 8, 3) := by decide +kernel
theorem dX3_readWord_81 : decode cX3_readWord 81 = .ok (.aload_n 0, 1) := by decide +kernel
theorem dX3_readWord_82 : decode cX3_readWord 82 = .ok (.iload_n 1, 1) := by decide +kernel
theorem dX3_readWord_83 : decode cX3_readWord 83 = .ok (.putfield 32, 3) := by decide +kernel
theorem dX3_readWord_86 : decode cX3_readWord 86 = .ok (.iload_n 2, 1) := by decide +kernel
theorem dX3_readWord_87 : decode cX3_readWord 87 = .ok (.ireturn, 1) := by decide +kernel
set_option maxRecDepth 20000 in
theorem ggX3_readNumber_X3_skipBlanks : GoodIn wsX3_readNumber wsX3_skipBlanks := goodIn_r _ [10, 2, 3, 4, 11, 12, 13, 14, 15, 16, 17, 30, 31, 32, 33, 34, 35, 36, 37, 38, 39] (by decide +kernel) (by decide +kernel)
set_option maxRecDepth 20000 in
theorem gX3_readNumber_X3_skipBlanks : GoodIn wsX3_readNumber (wsV RX3 46 RX3 yX3_skipBlanks wsX3_skipBlanks) := goodIn_app (goodIn_of _ (by decide +kernel)) ggX3_readNumber_X3_skipBlanks
set_option maxRecDepth 20000 in
theorem ggX3_readNumber_X5_isFigure : GoodIn wsX3_readNumber wsX5_isFigure := goodIn_r _ [21, 22, 12, 13, 14, 15, 16, 17, 38, 39] (by decide +kernel) (by decide +kernel)
set_option maxRecDepth 20000 in
theorem gX3_readNumber_X5_isFigure : GoodIn wsX3_readNumber (wsV RX3 80 RX5 yX5_isFigure wsX5_isFigure) := goodIn_app (goodIn_of _ (by decide +kernel)) ggX3_readNumber_X5_isFigure
set_option maxRecDepth 20000 in
theorem ggX3_readNumber_X5_byteAt : GoodIn wsX3_readNumber wsX5_byteAt := goodIn_r _ [15, 16, 17, 38, 39] (by decide +kernel) (by decide +kernel)
set_option maxRecDepth 20000 in
theorem gX3_readNumber_X5_byteAt : GoodIn wsX3_readNumber (wsV RX3 83 RX5 yX5_byteAt wsX5_byteAt) := goodIn_app (goodIn_of _ (by decide +kernel)) ggX3_readNumber_X5_byteAt
set_option maxRecDepth 20000 in
theorem ggX3_readNumber_X7_suits : GoodIn wsX3_readNumber wsX7_suits := goodIn_r _ [26, 27, 28, 29] (by decide +kernel) (by decide +kernel)
set_option maxRecDepth 20000 in
theorem gX3_readNumber_X7_suits : GoodIn wsX3_readNumber (va_wsS RX3 86 yX7_suits wsX7_suits) := goodIn_app (goodIn_of _ (by decide +kernel)) ggX3_readNumber_X7_suits
theorem dX3_readNumber_0 : decode cX3_readNumber 0 = .ok (.aload_n 0, 1) := by decide +kernel
theorem dX3_readNumber_1 : decode cX3_readNumber 1 = .ok (.getfield 32, 3) := by decide +kernel
theorem dX3_readNumber_4 : decode cX3_readNumber 4 = .ok (.iconst (-1), 1) := by decide +kernel
theorem dX3_readNumber_5 : decode cX3_readNumber 5 = .ok (.if_icmp .ne 7, 3) := by decide +kernel
theorem dX3_readNumber_8 : decode cX3_readNumber 8 = .ok (.iload_n 1, 1) := by decide +kernel
theorem dX3_readNumber_9 : decode cX3_readNumber 9 = .ok (.ifCond .ne 5, 3) := by decide +kernel
theorem dX3_readNumber_12 : decode cX3_readNumber 12 = .ok (.iconst 0, 1) := by decide +kernel
theorem dX3_readNumber_13 : decode cX3_readNumber 13 = .ok (.ireturn, 1) := by decide +kernel
theorem dX3_readNumber_14 : decode cX3_readNumber 14 = .ok (.aload_n 0, 1) := by decide +kernel
theorem dX3_readNumber_15 : decode cX3_readNumber 15 = .ok (.invokevirtual 46, 3) := by decide +kernel
theorem dX3_readNumber_18 : decode cX3_readNumber 18 = .ok (.aload_n 0, 1) := by decide +kernel
theorem dX3_readNumber_19 : decode cX3_readNumber 19 = .ok (.getfield 29, 3) := by decide +kernel
theorem dX3_readNumber_22 : decode cX3_readNumber 22 = .ok (.istore_n 2, 1) := by decide +kernel
theorem dX3_readNumber_23 : decode cX3_readNumber 23 = .ok (.iconst 0, 1) := by decide +kernel
theorem dX3_readNumber_24 : decode cX3_readNumber 24 = .ok (.istore_n 3, 1) := by decide +kernel
theorem dX3_readNumber_25 : decode cX3_readNumber 25 = .ok (.aload_n 0, 1) := by decide +kernel
theorem dX3_readNumber_26 : decode cX3_readNumber 26 = .ok (.getfield 29, 3) := by decide +kernel
theorem dX3_readNumber_29 : decode cX3_readNumber 29 = .ok (.aload_n 0, 1) := by decide +kernel
theorem dX3_readNumber_30 : decode cX3_readNumber 30 = .ok (.getfield 21, 3) := by decide +kernel
theorem dX3_readNumber_33 : decode cX3_readNumber 33 = .ok (.getfield 38, 3) := by decide +kernel
theorem dX3_readNumber_36 : decode cX3_readNumber 36 = .ok (.if_icmp .ge 50, 3) := by decide +kernel
theorem dX3_readNumber_39 : decode cX3_readNumber 39 = .ok (.aload_n 0, 1) := by decide +kernel
theorem dX3_readNumber_40 : decode cX3_readNumber 40 = .ok (.getfield 21, 3) := by decide +kernel
theorem dX3_readNumber_43 : decode cX3_readNumber 43 = .ok (.aload_n 0, 1) := by decide +kernel
theorem dX3_readNumber_44 : decode cX3_readNumber 44 = .ok (.getfield 29, 3) := by decide +kernel
theorem dX3_readNumber_47 : decode cX3_readNumber 47 = .ok (.invokevirtual 80, 3) := by decide +kernel
theorem dX3_readNumber_50 : decode cX3_readNumber 50 = .ok (.ifCond .eq 36, 3) := by decide +kernel
theorem dX3_readNumber_53 : decode cX3_readNumber 53 = .ok (.iload_n 3, 1) := by decide +kernel
theorem dX3_readNumber_54 : decode cX3_readNumber 54 = .ok (.bipush 10, 2) := by decide +kernel
theorem dX3_readNumber_56 : decode cX3_readNumber 56 = .ok (.imul, 1) := by decide +kernel
theorem dX3_readNumber_57 : decode cX3_readNumber 57 = .ok (.aload_n 0, 1) := by decide +kernel
theorem dX3_readNumber_58 : decode cX3_readNumber 58 = .ok (.getfield 21, 3) := by decide +kernel
theorem dX3_readNumber_61 : decode cX3_readNumber 61 = .ok (.aload_n 0, 1) := by decide +kernel
theorem dX3_readNumber_62 : decode cX3_readNumber 62 = .ok (.getfield 29, 3) := by decide +kernel
theorem dX3_readNumber_65 : decode cX3_readNumber 65 = .ok (.invokevirtual 83, 3) := by decide +kernel
theorem dX3_readNumber_68 : decode cX3_readNumber 68 = .ok (.iadd, 1) := by decide +kernel
theorem dX3_readNumber_69 : decode cX3_readNumber 69 = .ok (.bipush 48, 2) := by decide +kernel
theorem dX3_readNumber_71 : decode cX3_readNumber 71 = .ok (.isub, 1) := by decide +kernel
theorem dX3_readNumber_72 : decode cX3_readNumber 72 = .ok (.istore_n 3, 1) := by decide +kernel
theorem dX3_readNumber_73 : decode cX3_readNumber 73 = .ok (.aload_n 0, 1) := by decide +kernel
theorem dX3_readNumber_74 : decode cX3_readNumber 74 = .ok (.dup, 1) := by decide +kernel
theorem dX3_readNumber_75 : decode cX3_readNumber 75 = .ok (.getfield 29, 3) := by decide +kernel
theorem dX3_readNumber_78 : decode cX3_readNumber 78 = .ok (.iconst 1, 1) := by decide +kernel
theorem dX3_readNumber_79 : decode cX3_readNumber 79 = .ok (.iadd, 1) := by decide +kernel
theorem dX3_readNumber_80 : decode cX3_readNumber 80 = .ok (.putfield 29, 3) := by decide +kernel
theorem dX3_readNumber_83 : decode cX3_readNumber 83 = .ok (.goto (-58), 3) := by decide +kernel
theorem dX3_readNumber_86 : decode cX3_readNumber 86 = .ok (.aload_n 0, 1) := by decide +kernel
theorem dX3_readNumber_87 : decode cX3_readNumber 87 = .ok (.getfield 29, 3) := by decide +kernel
theorem dX3_readNumber_90 : decode cX3_readNumber 90 = .ok (.iload_n 2, 1) := by decide +kernel
theorem dX3_readNumber_91 : decode cX3_readNumber 91 = .ok (.isub, 1) := by decide +kernel
theorem dX3_readNumber_92 : decode cX3_readNumber 92 = .ok (.istore 4, 2) := by decide +kernel
theorem dX3_readNumber_94 : decode cX3_readNumber 94 = .ok (.iload 4, 2) := by decide +kernel
theorem dX3_readNumber_96 : decode cX3_readNumber 96 = .ok (.iconst 1, 1) := by decide +kernel
theorem dX3_readNumber_97 : decode cX3_readNumber 97 = .ok (.if_icmp .lt 21, 3) := by decide +kernel
theorem dX3_readNumber_100 : decode cX3_readNumber 100 = .ok (.iload 4, 2) := by decide +kernel
theorem dX3_readNumber_102 : decode cX3_readNumber 102 = .ok (.iconst 2, 1) := by decide +kernel
theorem dX3_readNumber_103 : decode cX3_readNumber 103 = .ok (.if_icmp .gt 15, 3) := by decide +kernel
theorem dX3_readNumber_106 : decode cX3_readNumber 106 = .ok (.iload_n 1, 1) := by decide +kernel
theorem dX3_readNumber_107 : decode cX3_readNumber 107 = .ok (.iload_n 3, 1) := by decide +kernel
theorem dX3_readNumber_108 : decode cX3_readNumber 108 = .ok (.aload_n 0, 1) := by decide +kernel
theorem dX3_readNumber_109 : decode cX3_readNumber 109 = .ok (.getfield 35, 3) := by decide +kernel
theorem dX3_readNumber_112 : decode cX3_readNumber 112 = .ok (.invokestatic 86, 3) := by decide +kernel
theorem dX3_readNumber_115 : decode cX3_readNumber 115 = .ok (.ifCond .ne 8, 3) := by decide +kernel
theorem dX3_readNumber_118 : decode cX3_readNumber 118 = .ok (.aload_n 0, 1) := by decide +kernel
theorem dX3_readNumber_119 : decode cX3_readNumber 119 = .ok (.iload_n 2, 1) := by decide +kernel
theorem dX3_readNumber_120 : decode cX3_readNumber 120 = .ok (.putfield 32, 3) := by decide +kernel
theorem dX3_readNumber_123 : decode cX3_readNumber 123 = .ok (.iload_n 3, 1) := by decide +kernel
theorem dX3_readNumber_124 : decode cX3_readNumber 124 = .ok (.ireturn, 1) := by decide +kernel
set_option maxRecDepth 20000 in
theorem ggX3_readEnd_X3_skipBlanks : GoodIn wsX3_readEnd wsX3_skipBlanks := goodIn_r _ [8, 3, 2, 9, 10, 11, 12, 13, 14, 15, 16, 17, 18, 19, 20, 21, 22, 23, 24, 25, 26] (by decide +kernel) (by decide +kernel)
set_option maxRecDepth 20000 in
theorem gX3_readEnd_X3_skipBlanks : GoodIn wsX3_readEnd (wsV RX3 46 RX3 yX3_skipBlanks wsX3_skipBlanks) := goodIn_app (goodIn_of _ (by decide +kernel)) ggX3_readEnd_X3_skipBlanks
set_option maxRecDepth 20000 in
theorem ggX3_readEnd_X5_byteAt : GoodIn wsX3_readEnd wsX5_byteAt := goodIn_r _ [14, 15, 16, 25, 26] (by decide +kernel) (by decide +kernel)
set_option maxRecDepth 20000 in
theorem gX3_readEnd_X5_byteAt : GoodIn wsX3_readEnd (wsV RX3 83 RX5 yX5_byteAt wsX5_byteAt) := goodIn_app (goodIn_of _ (by decide +kernel)) ggX3_readEnd_X5_byteAt
theorem dX3_readEnd_0 : decode cX3_readEnd 0 = .ok (.aload_n 0, 1) := by decide +kernel
theorem dX3_readEnd_1 : decode cX3_readEnd 1 = .ok (.getfield 32, 3) := by decide +kernel
theorem dX3_readEnd_4 : decode cX3_readEnd 4 = .ok (.iconst (-1), 1) := by decide +kernel
theorem dX3_readEnd_5 : decode cX3_readEnd 5 = .ok (.if_icmp .eq 4, 3) := by decide +kernel
theorem dX3_readEnd_8 : decode cX3_readEnd 8 = .ok (.return_, 1) := by decide +kernel
theorem dX3_readEnd_9 : decode cX3_readEnd 9 = .ok (.aload_n 0, 1) := by decide +kernel
theorem dX3_readEnd_10 : decode cX3_readEnd 10 = .ok (.invokevirtual 46, 3) := by decide +kernel
theorem dX3_readEnd_13 : decode cX3_readEnd 13 = .ok (.aload_n 0, 1) := by decide +kernel
theorem dX3_readEnd_14 : decode cX3_readEnd 14 = .ok (.getfield 21, 3) := by decide +kernel
theorem dX3_readEnd_17 : decode cX3_readEnd 17 = .ok (.aload_n 0, 1) := by decide +kernel
theorem dX3_readEnd_18 : decode cX3_readEnd 18 = .ok (.getfield 29, 3) := by decide +kernel
theorem dX3_readEnd_21 : decode cX3_readEnd 21 = .ok (.invokevirtual 83, 3) := by decide +kernel
theorem dX3_readEnd_24 : decode cX3_readEnd 24 = .ok (.bipush 59, 2) := by decide +kernel
theorem dX3_readEnd_26 : decode cX3_readEnd 26 = .ok (.if_icmp .ne 16, 3) := by decide +kernel
theorem dX3_readEnd_29 : decode cX3_readEnd 29 = .ok (.aload_n 0, 1) := by decide +kernel
theorem dX3_readEnd_30 : decode cX3_readEnd 30 = .ok (.dup, 1) := by decide +kernel
theorem dX3_readEnd_31 : decode cX3_readEnd 31 = .ok (.getfield 29, 3) := by decide +kernel
theorem dX3_readEnd_34 : decode cX3_readEnd 34 = .ok (.iconst 1, 1) := by decide +kernel
theorem dX3_readEnd_35 : decode cX3_readEnd 35 = .ok (.iadd, 1) := by decide +kernel
theorem dX3_readEnd_36 : decode cX3_readEnd 36 = .ok (.putfield 29, 3) := by decide +kernel
theorem dX3_readEnd_39 : decode cX3_readEnd 39 = .ok (.goto 11, 3) := by decide +kernel
theorem dX3_readEnd_42 : decode cX3_readEnd 42 = .ok (.aload_n 0, 1) := by decide +kernel
theorem dX3_readEnd_43 : decode cX3_readEnd 43 = .ok (.aload_n 0, 1) := by decide +kernel
theorem dX3_readEnd_44 : decode cX3_readEnd 44 = .ok (.getfield 29, 3) := by decide +kernel
theorem dX3_readEnd_47 : decode cX3_readEnd 47 = .ok (.putfield 32, 3) := by decide +kernel
theorem dX3_readEnd_50 : decode cX3_readEnd 50 = .ok (.return_, 1) := by decide +kernel
theorem dX3_keep_0 : decode cX3_keep 0 = .ok (.aload_n 0, 1) := by decide +kernel
theorem dX3_keep_1 : decode cX3_keep 1 = .ok (.getfield 25, 3) := by decide +kernel
theorem dX3_keep_4 : decode cX3_keep 4 = .ok (.bipush 30, 2) := by decide +kernel
theorem dX3_keep_6 : decode cX3_keep 6 = .ok (.if_icmp .ge 43, 3) := by decide +kernel
theorem dX3_keep_9 : decode cX3_keep 9 = .ok (.aload_n 0, 1) := by decide +kernel
theorem dX3_keep_10 : decode cX3_keep 10 = .ok (.getfield 9, 3) := by decide +kernel
theorem dX3_keep_13 : decode cX3_keep 13 = .ok (.aload_n 0, 1) := by decide +kernel
theorem dX3_keep_14 : decode cX3_keep 14 = .ok (.getfield 25, 3) := by decide +kernel
theorem dX3_keep_17 : decode cX3_keep 17 = .ok (.iload_n 1, 1) := by decide +kernel
theorem dX3_keep_18 : decode cX3_keep 18 = .ok (.iastore, 1) := by decide +kernel
theorem dX3_keep_19 : decode cX3_keep 19 = .ok (.aload_n 0, 1) := by decide +kernel
theorem dX3_keep_20 : decode cX3_keep 20 = .ok (.getfield 15, 3) := by decide +kernel
theorem dX3_keep_23 : decode cX3_keep 23 = .ok (.aload_n 0, 1) := by decide +kernel
theorem dX3_keep_24 : decode cX3_keep 24 = .ok (.getfield 25, 3) := by decide +kernel
theorem dX3_keep_27 : decode cX3_keep 27 = .ok (.iload_n 2, 1) := by decide +kernel
theorem dX3_keep_28 : decode cX3_keep 28 = .ok (.iastore, 1) := by decide +kernel
theorem dX3_keep_29 : decode cX3_keep 29 = .ok (.aload_n 0, 1) := by decide +kernel
theorem dX3_keep_30 : decode cX3_keep 30 = .ok (.getfield 18, 3) := by decide +kernel
theorem dX3_keep_33 : decode cX3_keep 33 = .ok (.aload_n 0, 1) := by decide +kernel
theorem dX3_keep_34 : decode cX3_keep 34 = .ok (.getfield 25, 3) := by decide +kernel
theorem dX3_keep_37 : decode cX3_keep 37 = .ok (.iload_n 3, 1) := by decide +kernel
theorem dX3_keep_38 : decode cX3_keep 38 = .ok (.iastore, 1) := by decide +kernel
theorem dX3_keep_39 : decode cX3_keep 39 = .ok (.aload_n 0, 1) := by decide +kernel
theorem dX3_keep_40 : decode cX3_keep 40 = .ok (.dup, 1) := by decide +kernel
theorem dX3_keep_41 : decode cX3_keep 41 = .ok (.getfield 25, 3) := by decide +kernel
theorem dX3_keep_44 : decode cX3_keep 44 = .ok (.iconst 1, 1) := by decide +kernel
theorem dX3_keep_45 : decode cX3_keep 45 = .ok (.iadd, 1) := by decide +kernel
theorem dX3_keep_46 : decode cX3_keep 46 = .ok (.putfield 25, 3) := by decide +kernel
theorem dX3_keep_49 : decode cX3_keep 49 = .ok (.iload_n 1, 1) := by decide +kernel
theorem dX3_keep_50 : decode cX3_keep 50 = .ok (.ifCond .ne 13, 3) := by decide +kernel
theorem dX3_keep_53 : decode cX3_keep 53 = .ok (.aload_n 0, 1) := by decide +kernel
theorem dX3_keep_54 : decode cX3_keep 54 = .ok (.dup, 1) := by decide +kernel
theorem dX3_keep_55 : decode cX3_keep 55 = .ok (.getfield 35, 3) := by decide +kernel
theorem dX3_keep_58 : decode cX3_keep 58 = .ok (.iconst 1, 1) := by decide +kernel
theorem dX3_keep_59 : decode cX3_keep 59 = .ok (.iadd, 1) := by decide +kernel
theorem dX3_keep_60 : decode cX3_keep 60 = .ok (.putfield 35, 3) := by decide +kernel
theorem dX3_keep_63 : decode cX3_keep 63 = .ok (.return_, 1) := by decide +kernel
set_option maxRecDepth 20000 in
theorem ggX3_skipBlanks_X5_byteAt : GoodIn wsX3_skipBlanks wsX5_byteAt := goodIn_r _ [8, 9, 10, 19, 20] (by decide +kernel) (by decide +kernel)
set_option maxRecDepth 20000 in
theorem gX3_skipBlanks_X5_byteAt : GoodIn wsX3_skipBlanks (wsV RX3 83 RX5 yX5_byteAt wsX5_byteAt) := goodIn_app (goodIn_of _ (by decide +kernel)) ggX3_skipBlanks_X5_byteAt
theorem dX3_skipBlanks_0 : decode cX3_skipBlanks 0 = .ok (.aload_n 0, 1) := by decide +kernel
theorem dX3_skipBlanks_1 : decode cX3_skipBlanks 1 = .ok (.getfield 29, 3) := by decide +kernel
theorem dX3_skipBlanks_4 : decode cX3_skipBlanks 4 = .ok (.aload_n 0, 1) := by decide +kernel
theorem dX3_skipBlanks_5 : decode cX3_skipBlanks 5 = .ok (.getfield 21, 3) := by decide +kernel
theorem dX3_skipBlanks_8 : decode cX3_skipBlanks 8 = .ok (.getfield 38, 3) := by decide +kernel
theorem dX3_skipBlanks_11 : decode cX3_skipBlanks 11 = .ok (.if_icmp .ge 32, 3) := by decide +kernel
theorem dX3_skipBlanks_14 : decode cX3_skipBlanks 14 = .ok (.aload_n 0, 1) := by decide +kernel
theorem dX3_skipBlanks_15 : decode cX3_skipBlanks 15 = .ok (.getfield 21, 3) := by decide +kernel
theorem dX3_skipBlanks_18 : decode cX3_skipBlanks 18 = .ok (.aload_n 0, 1) := by decide +kernel
theorem dX3_skipBlanks_19 : decode cX3_skipBlanks 19 = .ok (.getfield 29, 3) := by decide +kernel
theorem dX3_skipBlanks_22 : decode cX3_skipBlanks 22 = .ok (.invokevirtual 83, 3) := by decide +kernel
theorem dX3_skipBlanks_25 : decode cX3_skipBlanks 25 = .ok (.bipush 32, 2) := by decide +kernel
theorem dX3_skipBlanks_27 : decode cX3_skipBlanks 27 = .ok (.if_icmp .ne 16, 3) := by decide +kernel
theorem dX3_skipBlanks_30 : decode cX3_skipBlanks 30 = .ok (.aload_n 0, 1) := by decide +kernel
theorem dX3_skipBlanks_31 : decode cX3_skipBlanks 31 = .ok (.dup, 1) := by decide +kernel
theorem dX3_skipBlanks_32 : decode cX3_skipBlanks 32 = .ok (.getfield 29, 3) := by decide +kernel
theorem dX3_skipBlanks_35 : decode cX3_skipBlanks 35 = .ok (.iconst 1, 1) := by decide +kernel
theorem dX3_skipBlanks_36 : decode cX3_skipBlanks 36 = .ok (.iadd, 1) := by decide +kernel
theorem dX3_skipBlanks_37 : decode cX3_skipBlanks 37 = .ok (.putfield 29, 3) := by decide +kernel
theorem dX3_skipBlanks_40 : decode cX3_skipBlanks 40 = .ok (.goto (-40), 3) := by decide +kernel
theorem dX3_skipBlanks_43 : decode cX3_skipBlanks 43 = .ok (.return_, 1) := by decide +kernel
end
section
theorem dX4_init_0 : decode cX4_init 0 = .ok (.aload_n 0, 1) := by decide +kernel
theorem dX4_init_1 : decode cX4_init 1 = .ok (.invokespecial 3, 3) := by decide +kernel
theorem dX4_init_4 : decode cX4_init 4 = .ok (.aload_n 0, 1) := by decide +kernel
theorem dX4_init_5 : decode cX4_init 5 = .ok (.aload_n 1, 1) := by decide +kernel
theorem dX4_init_6 : decode cX4_init 6 = .ok (.putfield 9, 3) := by decide +kernel
theorem dX4_init_9 : decode cX4_init 9 = .ok (.aload_n 0, 1) := by decide +kernel
theorem dX4_init_10 : decode cX4_init 10 = .ok (.aload_n 2, 1) := by decide +kernel
theorem dX4_init_11 : decode cX4_init 11 = .ok (.putfield 15, 3) := by decide +kernel
theorem dX4_init_14 : decode cX4_init 14 = .ok (.aload_n 0, 1) := by decide +kernel
theorem dX4_init_15 : decode cX4_init 15 = .ok (.aload_n 3, 1) := by decide +kernel
theorem dX4_init_16 : decode cX4_init 16 = .ok (.putfield 19, 3) := by decide +kernel
theorem dX4_init_19 : decode cX4_init 19 = .ok (.aload_n 0, 1) := by decide +kernel
theorem dX4_init_20 : decode cX4_init 20 = .ok (.aload 4, 2) := by decide +kernel
theorem dX4_init_22 : decode cX4_init 22 = .ok (.putfield 23, 3) := by decide +kernel
theorem dX4_init_25 : decode cX4_init 25 = .ok (.return_, 1) := by decide +kernel
set_option maxRecDepth 20000 in
theorem ggX4_tell_X1_settle : GoodIn wsX4_tell wsX1_settle := goodIn_r _ [8, 9, 10, 11, 12, 13, 14, 15, 7, 16, 17, 18, 19, 20, 21, 22, 23, 24, 25, 98, 99, 100, 101, 102, 103] (by decide +kernel) (by decide +kernel)
set_option maxRecDepth 20000 in
theorem gX4_tell_X1_settle : GoodIn wsX4_tell (wsV RX4 27 RX1 yX1_settle wsX1_settle) := goodIn_app (goodIn_of _ (by decide +kernel)) ggX4_tell_X1_settle
set_option maxRecDepth 20000 in
theorem ggX4_tell_X2_putNumber : GoodIn wsX4_tell wsX2_putNumber := goodIn_r _ [30, 31, 32, 33, 29, 34, 35, 36, 104, 105] (by decide +kernel) (by decide +kernel)
set_option maxRecDepth 20000 in
theorem gX4_tell_X2_putNumber : GoodIn wsX4_tell (wsV RX4 33 RX2 yX2_putNumber wsX2_putNumber) := goodIn_app (goodIn_of _ (by decide +kernel)) ggX4_tell_X2_putNumber
set_option maxRecDepth 20000 in
theorem ggX4_tell_X1_setDepot : GoodIn wsX4_tell wsX1_setDepot := goodIn_r _ [40, 12, 41, 98, 99, 100, 101, 102, 103] (by decide +kernel) (by decide +kernel)
set_option maxRecDepth 20000 in
theorem gX4_tell_X1_setDepot : GoodIn wsX4_tell (wsV RX4 39 RX1 yX1_setDepot wsX1_setDepot) := goodIn_app (goodIn_of _ (by decide +kernel)) ggX4_tell_X1_setDepot
set_option maxRecDepth 20000 in
theorem ggX4_tell_X1_setRoad : GoodIn wsX4_tell wsX1_setRoad := goodIn_r _ [45, 11, 9, 17, 18, 19, 7, 20, 10, 21, 13, 14, 15, 16, 22, 23, 24, 25, 98, 99, 100, 101, 102, 103] (by decide +kernel) (by decide +kernel)
set_option maxRecDepth 20000 in
theorem gX4_tell_X1_setRoad : GoodIn wsX4_tell (wsV RX4 43 RX1 yX1_setRoad wsX1_setRoad) := goodIn_app (goodIn_of _ (by decide +kernel)) ggX4_tell_X1_setRoad
set_option maxRecDepth 20000 in
theorem ggX4_tell_X4_tellNearest : GoodIn wsX4_tell wsX4_tellNearest := goodIn_r _ [50, 3, 1, 2, 51, 52, 53, 54, 55, 56, 57, 58, 59, 60, 23, 24, 7, 25, 21, 61, 32, 33, 29, 34, 35, 36, 26, 27, 28, 30, 31, 62, 94, 95, 96, 97, 106, 107, 98, 99, 100, 101, 102, 103, 104, 105] (by decide +kernel) (by decide +kernel)
set_option maxRecDepth 20000 in
theorem gX4_tell_X4_tellNearest : GoodIn wsX4_tell (wsV RX4 46 RX4 yX4_tellNearest wsX4_tellNearest) := goodIn_app (goodIn_of _ (by decide +kernel)) ggX4_tell_X4_tellNearest
set_option maxRecDepth 20000 in
theorem ggX4_tell_X1_gap : GoodIn wsX4_tell wsX1_gap := goodIn_r _ [25, 21, 98, 99, 100, 101, 102, 103] (by decide +kernel) (by decide +kernel)
set_option maxRecDepth 20000 in
theorem gX4_tell_X1_gap : GoodIn wsX4_tell (wsV RX4 49 RX1 yX1_gap wsX1_gap) := goodIn_app (goodIn_of _ (by decide +kernel)) ggX4_tell_X1_gap
set_option maxRecDepth 20000 in
theorem ggX4_tell_X4_tellWay : GoodIn wsX4_tell wsX4_tellWay := goodIn_r _ [66, 67, 68, 1, 69, 70, 71, 72, 73, 74, 75, 76, 77, 78, 61, 32, 33, 29, 34, 35, 36, 26, 27, 28, 30, 31, 94, 95, 96, 97, 108, 109, 110, 111, 98, 99, 100, 101, 102, 103, 104, 105] (by decide +kernel) (by decide +kernel)
set_option maxRecDepth 20000 in
theorem gX4_tell_X4_tellWay : GoodIn wsX4_tell (wsV RX4 52 RX4 yX4_tellWay wsX4_tellWay) := goodIn_app (goodIn_of _ (by decide +kernel)) ggX4_tell_X4_tellWay
set_option maxRecDepth 20000 in
theorem ggX4_tell_X0_countWithin : GoodIn wsX4_tell wsX0_countWithin := goodIn_r _ [82, 57, 58, 59, 60, 23, 24, 7, 25, 21, 106, 107, 98, 99, 100, 101, 102, 103] (by decide +kernel) (by decide +kernel)
set_option maxRecDepth 20000 in
theorem gX4_tell_X0_countWithin : GoodIn wsX4_tell (wsV RX4 56 RX0 yX0_countWithin wsX0_countWithin) := goodIn_app (goodIn_of _ (by decide +kernel)) ggX4_tell_X0_countWithin
set_option maxRecDepth 20000 in
theorem ggX4_tell_X4_tellAll : GoodIn wsX4_tell wsX4_tellAll := goodIn_r _ [86, 2, 87, 1, 88, 89, 61, 32, 33, 29, 34, 35, 36, 26, 27, 28, 30, 31, 94, 95, 96, 97, 98, 99, 100, 101, 102, 103, 104, 105] (by decide +kernel) (by decide +kernel)
set_option maxRecDepth 20000 in
theorem gX4_tell_X4_tellAll : GoodIn wsX4_tell (wsV RX4 61 RX4 yX4_tellAll wsX4_tellAll) := goodIn_app (goodIn_of _ (by decide +kernel)) ggX4_tell_X4_tellAll
set_option maxRecDepth 20000 in
theorem ggX4_tell_X0_total : GoodIn wsX4_tell wsX0_total := goodIn_r _ [93, 57, 58, 59, 60, 23, 24, 7, 25, 21, 106, 107, 98, 99, 100, 101, 102, 103] (by decide +kernel) (by decide +kernel)
set_option maxRecDepth 20000 in
theorem gX4_tell_X0_total : GoodIn wsX4_tell (wsV RX4 64 RX0 yX0_total wsX0_total) := goodIn_app (goodIn_of _ (by decide +kernel)) ggX4_tell_X0_total
theorem dX4_tell_0 : decode cX4_tell 0 = .ok (.iload_n 1, 1) := by decide +kernel
theorem dX4_tell_1 : decode cX4_tell 1 = .ok (.tableswitch 189 0 8 #[51, 70, 89, 108, 127, 135, 154, 163, 182], 51) := by decide +kernel
theorem dX4_tell_52 : decode cX4_tell 52 = .ok (.aload_n 0, 1) := by decide +kernel
theorem dX4_tell_53 : decode cX4_tell 53 = .ok (.getfield 23, 3) := by decide +kernel
theorem dX4_tell_56 : decode cX4_tell 56 = .ok (.aload_n 0, 1) := by decide +kernel
theorem dX4_tell_57 : decode cX4_tell 57 = .ok (.getfield 9, 3) := by decide +kernel
theorem dX4_tell_60 : decode cX4_tell 60 = .ok (.iload_n 2, 1) := by decide +kernel
theorem dX4_tell_61 : decode cX4_tell 61 = .ok (.iload_n 3, 1) := by decide +kernel
theorem dX4_tell_62 : decode cX4_tell 62 = .ok (.invokevirtual 27, 3) := by decide +kernel
theorem dX4_tell_65 : decode cX4_tell 65 = .ok (.invokevirtual 33, 3) := by decide +kernel
theorem dX4_tell_68 : decode cX4_tell 68 = .ok (.goto 137, 3) := by decide +kernel
theorem dX4_tell_71 : decode cX4_tell 71 = .ok (.aload_n 0, 1) := by decide +kernel
theorem dX4_tell_72 : decode cX4_tell 72 = .ok (.getfield 23, 3) := by decide +kernel
theorem dX4_tell_75 : decode cX4_tell 75 = .ok (.aload_n 0, 1) := by decide +kernel
theorem dX4_tell_76 : decode cX4_tell 76 = .ok (.getfield 9, 3) := by decide +kernel
theorem dX4_tell_79 : decode cX4_tell 79 = .ok (.iload_n 2, 1) := by decide +kernel
theorem dX4_tell_80 : decode cX4_tell 80 = .ok (.iconst 1, 1) := by decide +kernel
theorem dX4_tell_81 : decode cX4_tell 81 = .ok (.invokevirtual 39, 3) := by decide +kernel
theorem dX4_tell_84 : decode cX4_tell 84 = .ok (.invokevirtual 33, 3) := by decide +kernel
theorem dX4_tell_87 : decode cX4_tell 87 = .ok (.goto 118, 3) := by decide +kernel
theorem dX4_tell_90 : decode cX4_tell 90 = .ok (.aload_n 0, 1) := by decide +kernel
theorem dX4_tell_91 : decode cX4_tell 91 = .ok (.getfield 23, 3) := by decide +kernel
theorem dX4_tell_94 : decode cX4_tell 94 = .ok (.aload_n 0, 1) := by decide +kernel
theorem dX4_tell_95 : decode cX4_tell 95 = .ok (.getfield 9, 3) := by decide +kernel
theorem dX4_tell_98 : decode cX4_tell 98 = .ok (.iload_n 2, 1) := by decide +kernel
theorem dX4_tell_99 : decode cX4_tell 99 = .ok (.iconst 0, 1) := by decide +kernel
theorem dX4_tell_100 : decode cX4_tell 100 = .ok (.invokevirtual 39, 3) := by decide +kernel
theorem dX4_tell_103 : decode cX4_tell 103 = .ok (.invokevirtual 33, 3) := by decide +kernel
theorem dX4_tell_106 : decode cX4_tell 106 = .ok (.goto 99, 3) := by decide +kernel
theorem dX4_tell_109 : decode cX4_tell 109 = .ok (.aload_n 0, 1) := by decide +kernel
theorem dX4_tell_110 : decode cX4_tell 110 = .ok (.getfield 23, 3) := by decide +kernel
theorem dX4_tell_113 : decode cX4_tell 113 = .ok (.aload_n 0, 1) := by decide +kernel
theorem dX4_tell_114 : decode cX4_tell 114 = .ok (.getfield 9, 3) := by decide +kernel
theorem dX4_tell_117 : decode cX4_tell 117 = .ok (.iload_n 2, 1) := by decide +kernel
theorem dX4_tell_118 : decode cX4_tell 118 = .ok (.iload_n 3, 1) := by decide +kernel
theorem dX4_tell_119 : decode cX4_tell 119 = .ok (.invokevirtual 43, 3) := by decide +kernel
theorem dX4_tell_122 : decode cX4_tell 122 = .ok (.invokevirtual 33, 3) := by decide +kernel
theorem dX4_tell_125 : decode cX4_tell 125 = .ok (.goto 80, 3) := by decide +kernel
theorem dX4_tell_128 : decode cX4_tell 128 = .ok (.aload_n 0, 1) := by decide +kernel
theorem dX4_tell_129 : decode cX4_tell 129 = .ok (.iload_n 2, 1) := by decide +kernel
theorem dX4_tell_130 : decode cX4_tell 130 = .ok (.invokevirtual 46, 3) := by decide +kernel
theorem dX4_tell_133 : decode cX4_tell 133 = .ok (.goto 72, 3) := by decide +kernel
theorem dX4_tell_136 : decode cX4_tell 136 = .ok (.aload_n 0, 1) := by decide +kernel
theorem dX4_tell_137 : decode cX4_tell 137 = .ok (.getfield 23, 3) := by decide +kernel
theorem dX4_tell_140 : decode cX4_tell 140 = .ok (.aload_n 0, 1) := by decide +kernel
theorem dX4_tell_141 : decode cX4_tell 141 = .ok (.getfield 9, 3) := by decide +kernel
theorem dX4_tell_144 : decode cX4_tell 144 = .ok (.iload_n 2, 1) := by decide +kernel
theorem dX4_tell_145 : decode cX4_tell 145 = .ok (.iload_n 3, 1) := by decide +kernel
theorem dX4_tell_146 : decode cX4_tell 146 = .ok (.invokevirtual 49, 3) := by decide +kernel
theorem dX4_tell_149 : decode cX4_tell 149 = .ok (.invokevirtual 33, 3) := by decide +kernel
theorem dX4_tell_152 : decode cX4_tell 152 = .ok (.goto 53, 3) := by decide +kernel
theorem dX4_tell_155 : decode cX4_tell 155 = .ok (.aload_n 0, 1) := by decide +kernel
theorem dX4_tell_156 : decode cX4_tell 156 = .ok (.iload_n 2, 1) := by decide +kernel
theorem dX4_tell_157 : decode cX4_tell 157 = .ok (.iload_n 3, 1) := by decide +kernel
theorem dX4_tell_158 : decode cX4_tell 158 = .ok (.invokevirtual 52, 3) := by decide +kernel
theorem dX4_tell_161 : decode cX4_tell 161 = .ok (.goto 44, 3) := by decide +kernel
theorem dX4_tell_164 : decode cX4_tell 164 = .ok (.aload_n 0, 1) := by decide +kernel
theorem dX4_tell_165 : decode cX4_tell 165 = .ok (.getfield 23, 3) := by decide +kernel
theorem dX4_tell_168 : decode cX4_tell 168 = .ok (.aload_n 0, 1) := by decide +kernel
theorem dX4_tell_169 : decode cX4_tell 169 = .ok (.getfield 19, 3) := by decide +kernel
theorem dX4_tell_172 : decode cX4_tell 172 = .ok (.iload_n 2, 1) := by decide +kernel
theorem dX4_tell_173 : decode cX4_tell 173 = .ok (.iload_n 3, 1) := by decide +kernel
theorem dX4_tell_174 : decode cX4_tell 174 = .ok (.invokevirtual 56, 3) := by decide +kernel
theorem dX4_tell_177 : decode cX4_tell 177 = .ok (.invokevirtual 33, 3) := by decide +kernel
theorem dX4_tell_180 : decode cX4_tell 180 = .ok (.goto 25, 3) := by decide +kernel
theorem dX4_tell_183 : decode cX4_tell 183 = .ok (.aload_n 0, 1) := by decide +kernel
theorem dX4_tell_184 : decode cX4_tell 184 = .ok (.invokevirtual 61, 3) := by decide +kernel
theorem dX4_tell_187 : decode cX4_tell 187 = .ok (.goto 18, 3) := by decide +kernel
theorem dX4_tell_190 : decode cX4_tell 190 = .ok (.aload_n 0, 1) := by decide +kernel
theorem dX4_tell_191 : decode cX4_tell 191 = .ok (.getfield 23, 3) := by decide +kernel
theorem dX4_tell_194 : decode cX4_tell 194 = .ok (.aload_n 0, 1) := by decide +kernel
theorem dX4_tell_195 : decode cX4_tell 195 = .ok (.getfield 19, 3) := by decide +kernel
theorem dX4_tell_198 : decode cX4_tell 198 = .ok (.iload_n 2, 1) := by decide +kernel
theorem dX4_tell_199 : decode cX4_tell 199 = .ok (.invokevirtual 64, 3) := by decide +kernel
theorem dX4_tell_202 : decode cX4_tell 202 = .ok (.invokevirtual 33, 3) := by decide +kernel
theorem dX4_tell_205 : decode cX4_tell 205 = .ok (.return_, 1) := by decide +kernel
set_option maxRecDepth 20000 in
theorem ggX4_tellNearest_X0_closest : GoodIn wsX4_tellNearest wsX0_closest := goodIn_r _ [8, 9, 10, 11, 12, 13, 14, 15, 16, 17, 18, 36, 37, 38, 39, 40, 41, 42, 43] (by decide +kernel) (by decide +kernel)
set_option maxRecDepth 20000 in
theorem gX4_tellNearest_X0_closest : GoodIn wsX4_tellNearest (wsV RX4 68 RX0 yX0_closest wsX0_closest) := goodIn_app (goodIn_of _ (by decide +kernel)) ggX4_tellNearest_X0_closest
set_option maxRecDepth 20000 in
theorem ggX4_tellNearest_X2_put : GoodIn wsX4_tellNearest wsX2_put := goodIn_r _ [23, 24, 25, 44, 45] (by decide +kernel) (by decide +kernel)
set_option maxRecDepth 20000 in
theorem gX4_tellNearest_X2_put : GoodIn wsX4_tellNearest (wsV RX4 71 RX2 yX2_put wsX2_put) := goodIn_app (goodIn_of _ (by decide +kernel)) ggX4_tellNearest_X2_put
set_option maxRecDepth 20000 in
theorem ggX4_tellNearest_X2_putNumber : GoodIn wsX4_tellNearest wsX2_putNumber := goodIn_r _ [29, 30, 20, 21, 22, 23, 24, 25, 44, 45] (by decide +kernel) (by decide +kernel)
set_option maxRecDepth 20000 in
theorem gX4_tellNearest_X2_putNumber : GoodIn wsX4_tellNearest (wsV RX4 33 RX2 yX2_putNumber wsX2_putNumber) := goodIn_app (goodIn_of _ (by decide +kernel)) ggX4_tellNearest_X2_putNumber
set_option maxRecDepth 20000 in
theorem ggX4_tellNearest_X1_gap : GoodIn wsX4_tellNearest wsX1_gap := goodIn_r _ [17, 18, 38, 39, 40, 41, 42, 43] (by decide +kernel) (by decide +kernel)
set_option maxRecDepth 20000 in
theorem gX4_tellNearest_X1_gap : GoodIn wsX4_tellNearest (wsV RX4 49 RX1 yX1_gap wsX1_gap) := goodIn_app (goodIn_of _ (by decide +kernel)) ggX4_tellNearest_X1_gap
theorem dX4_tellNearest_0 : decode cX4_tellNearest 0 = .ok (.aload_n 0, 1) := by decide +kernel
theorem dX4_tellNearest_1 : decode cX4_tellNearest 1 = .ok (.getfield 19, 3) := by decide +kernel
theorem dX4_tellNearest_4 : decode cX4_tellNearest 4 = .ok (.iload_n 1, 1) := by decide +kernel
theorem dX4_tellNearest_5 : decode cX4_tellNearest 5 = .ok (.invokevirtual 68, 3) := by decide +kernel
theorem dX4_tellNearest_8 : decode cX4_tellNearest 8 = .ok (.istore_n 2, 1) := by decide +kernel
theorem dX4_tellNearest_9 : decode cX4_tellNearest 9 = .ok (.iload_n 2, 1) := by decide +kernel
theorem dX4_tellNearest_10 : decode cX4_tellNearest 10 = .ok (.iconst (-1), 1) := by decide +kernel
theorem dX4_tellNearest_11 : decode cX4_tellNearest 11 = .ok (.if_icmp .ne 13, 3) := by decide +kernel
theorem dX4_tellNearest_14 : decode cX4_tellNearest 14 = .ok (.aload_n 0, 1) := by decide +kernel
theorem dX4_tellNearest_15 : decode cX4_tellNearest 15 = .ok (.getfield 23, 3) := by decide +kernel
theorem dX4_tellNearest_18 : decode cX4_tellNearest 18 = .ok (.bipush 45, 2) := by decide +kernel
theorem dX4_tellNearest_20 : decode cX4_tellNearest 20 = .ok (.invokevirtual 71, 3) := by decide +kernel
theorem dX4_tellNearest_23 : decode cX4_tellNearest 23 = .ok (.return_, 1) := by decide +kernel
theorem dX4_tellNearest_24 : decode cX4_tellNearest 24 = .ok (.aload_n 0, 1) := by decide +kernel
theorem dX4_tellNearest_25 : decode cX4_tellNearest 25 = .ok (.getfield 23, 3) := by decide +kernel
theorem dX4_tellNearest_28 : decode cX4_tellNearest 28 = .ok (.iload_n 2, 1) := by decide +kernel
theorem dX4_tellNearest_29 : decode cX4_tellNearest 29 = .ok (.invokevirtual 33, 3) := by decide +kernel
theorem dX4_tellNearest_32 : decode cX4_tellNearest 32 = .ok (.aload_n 0, 1) := by decide +kernel
theorem dX4_tellNearest_33 : decode cX4_tellNearest 33 = .ok (.getfield 23, 3) := by decide +kernel
theorem dX4_tellNearest_36 : decode cX4_tellNearest 36 = .ok (.bipush 64, 2) := by decide +kernel
theorem dX4_tellNearest_38 : decode cX4_tellNearest 38 = .ok (.invokevirtual 71, 3) := by decide +kernel
theorem dX4_tellNearest_41 : decode cX4_tellNearest 41 = .ok (.aload_n 0, 1) := by decide +kernel
theorem dX4_tellNearest_42 : decode cX4_tellNearest 42 = .ok (.getfield 23, 3) := by decide +kernel
theorem dX4_tellNearest_45 : decode cX4_tellNearest 45 = .ok (.aload_n 0, 1) := by decide +kernel
theorem dX4_tellNearest_46 : decode cX4_tellNearest 46 = .ok (.getfield 9, 3) := by decide +kernel
theorem dX4_tellNearest_49 : decode cX4_tellNearest 49 = .ok (.iload_n 1, 1) := by decide +kernel
theorem dX4_tellNearest_50 : decode cX4_tellNearest 50 = .ok (.iload_n 2, 1) := by decide +kernel
theorem dX4_tellNearest_51 : decode cX4_tellNearest 51 = .ok (.invokevirtual 49, 3) := by decide +kernel
theorem dX4_tellNearest_54 : decode cX4_tellNearest 54 = .ok (.invokevirtual 33, 3) := by decide +kernel
theorem dX4_tellNearest_57 : decode cX4_tellNearest 57 = .ok (.return_, 1) := by decide +kernel
set_option maxRecDepth 20000 in
theorem ggX4_tellWay_X6_walk : GoodIn wsX4_tellWay wsX6_walk := goodIn_r _ [9, 10, 11, 12, 13, 30, 31, 32, 33, 34, 35, 36, 37, 38, 39] (by decide +kernel) (by decide +kernel)
set_option maxRecDepth 20000 in
theorem gX4_tellWay_X6_walk : GoodIn wsX4_tellWay (wsV RX4 74 RX6 yX6_walk wsX6_walk) := goodIn_app (goodIn_of _ (by decide +kernel)) ggX4_tellWay_X6_walk
set_option maxRecDepth 20000 in
theorem ggX4_tellWay_X2_put : GoodIn wsX4_tellWay wsX2_put := goodIn_r _ [18, 19, 20, 40, 41] (by decide +kernel) (by decide +kernel)
set_option maxRecDepth 20000 in
theorem gX4_tellWay_X2_put : GoodIn wsX4_tellWay (wsV RX4 71 RX2 yX2_put wsX2_put) := goodIn_app (goodIn_of _ (by decide +kernel)) ggX4_tellWay_X2_put
set_option maxRecDepth 20000 in
theorem ggX4_tellWay_X2_putNumber : GoodIn wsX4_tellWay wsX2_putNumber := goodIn_r _ [24, 25, 15, 16, 17, 18, 19, 20, 40, 41] (by decide +kernel) (by decide +kernel)
set_option maxRecDepth 20000 in
theorem gX4_tellWay_X2_putNumber : GoodIn wsX4_tellWay (wsV RX4 33 RX2 yX2_putNumber wsX2_putNumber) := goodIn_app (goodIn_of _ (by decide +kernel)) ggX4_tellWay_X2_putNumber
theorem dX4_tellWay_0 : decode cX4_tellWay 0 = .ok (.aload_n 0, 1) := by decide +kernel
theorem dX4_tellWay_1 : decode cX4_tellWay 1 = .ok (.getfield 15, 3) := by decide +kernel
theorem dX4_tellWay_4 : decode cX4_tellWay 4 = .ok (.iload_n 1, 1) := by decide +kernel
theorem dX4_tellWay_5 : decode cX4_tellWay 5 = .ok (.iload_n 2, 1) := by decide +kernel
theorem dX4_tellWay_6 : decode cX4_tellWay 6 = .ok (.invokevirtual 74, 3) := by decide +kernel
theorem dX4_tellWay_9 : decode cX4_tellWay 9 = .ok (.iconst 0, 1) := by decide +kernel
theorem dX4_tellWay_10 : decode cX4_tellWay 10 = .ok (.istore_n 3, 1) := by decide +kernel
theorem dX4_tellWay_11 : decode cX4_tellWay 11 = .ok (.iload_n 3, 1) := by decide +kernel
theorem dX4_tellWay_12 : decode cX4_tellWay 12 = .ok (.aload_n 0, 1) := by decide +kernel
theorem dX4_tellWay_13 : decode cX4_tellWay 13 = .ok (.getfield 15, 3) := by decide +kernel
theorem dX4_tellWay_16 : decode cX4_tellWay 16 = .ok (.getfield 79, 3) := by decide +kernel
theorem dX4_tellWay_19 : decode cX4_tellWay 19 = .ok (.if_icmp .ge 38, 3) := by decide +kernel
theorem dX4_tellWay_22 : decode cX4_tellWay 22 = .ok (.iload_n 3, 1) := by decide +kernel
theorem dX4_tellWay_23 : decode cX4_tellWay 23 = .ok (.ifCond .le 12, 3) := by decide +kernel
theorem dX4_tellWay_26 : decode cX4_tellWay 26 = .ok (.aload_n 0, 1) := by decide +kernel
theorem dX4_tellWay_27 : decode cX4_tellWay 27 = .ok (.getfield 23, 3) := by decide +kernel
theorem dX4_tellWay_30 : decode cX4_tellWay 30 = .ok (.bipush 62, 2) := by decide +kernel
theorem dX4_tellWay_32 : decode cX4_tellWay 32 = .ok (.invokevirtual 71, 3) := by decide +kernel
theorem dX4_tellWay_35 : decode cX4_tellWay 35 = .ok (.aload_n 0, 1) := by decide +kernel
theorem dX4_tellWay_36 : decode cX4_tellWay 36 = .ok (.getfield 23, 3) := by decide +kernel
theorem dX4_tellWay_39 : decode cX4_tellWay 39 = .ok (.aload_n 0, 1) := by decide +kernel
theorem dX4_tellWay_40 : decode cX4_tellWay 40 = .ok (.getfield 15, 3) := by decide +kernel
theorem dX4_tellWay_43 : decode cX4_tellWay 43 = .ok (.getfield 83, 3) := by decide +kernel
theorem dX4_tellWay_46 : decode cX4_tellWay 46 = .ok (.iload_n 3, 1) := by decide +kernel
theorem dX4_tellWay_47 : decode cX4_tellWay 47 = .ok (.iaload, 1) := by decide +kernel
theorem dX4_tellWay_48 : decode cX4_tellWay 48 = .ok (.invokevirtual 33, 3) := by decide +kernel
theorem dX4_tellWay_51 : decode cX4_tellWay 51 = .ok (.iinc 3 1, 3) := by decide +kernel
theorem dX4_tellWay_54 : decode cX4_tellWay 54 = .ok (.goto (-43), 3) := by decide +kernel
theorem dX4_tellWay_57 : decode cX4_tellWay 57 = .ok (.return_, 1) := by decide +kernel
set_option maxRecDepth 20000 in
theorem ggX4_tellAll_X2_put : GoodIn wsX4_tellAll wsX2_put := goodIn_r _ [10, 11, 12, 28, 29] (by decide +kernel) (by decide +kernel)
set_option maxRecDepth 20000 in
theorem gX4_tellAll_X2_put : GoodIn wsX4_tellAll (wsV RX4 71 RX2 yX2_put wsX2_put) := goodIn_app (goodIn_of _ (by decide +kernel)) ggX4_tellAll_X2_put
set_option maxRecDepth 20000 in
theorem ggX4_tellAll_X2_putNumber : GoodIn wsX4_tellAll wsX2_putNumber := goodIn_r _ [16, 17, 7, 8, 9, 10, 11, 12, 28, 29] (by decide +kernel) (by decide +kernel)
set_option maxRecDepth 20000 in
theorem gX4_tellAll_X2_putNumber : GoodIn wsX4_tellAll (wsV RX4 33 RX2 yX2_putNumber wsX2_putNumber) := goodIn_app (goodIn_of _ (by decide +kernel)) ggX4_tellAll_X2_putNumber
theorem dX4_tellAll_0 : decode cX4_tellAll 0 = .ok (.aload_n 0, 1) := by decide +kernel
theorem dX4_tellAll_1 : decode cX4_tellAll 1 = .ok (.getfield 9, 3) := by decide +kernel
theorem dX4_tellAll_4 : decode cX4_tellAll 4 = .ok (.getfield 87, 3) := by decide +kernel
theorem dX4_tellAll_7 : decode cX4_tellAll 7 = .ok (.ifCond .ne 12, 3) := by decide +kernel
theorem dX4_tellAll_10 : decode cX4_tellAll 10 = .ok (.aload_n 0, 1) := by decide +kernel
theorem dX4_tellAll_11 : decode cX4_tellAll 11 = .ok (.getfield 23, 3) := by decide +kernel
theorem dX4_tellAll_14 : decode cX4_tellAll 14 = .ok (.bipush 45, 2) := by decide +kernel
theorem dX4_tellAll_16 : decode cX4_tellAll 16 = .ok (.invokevirtual 71, 3) := by decide +kernel
theorem dX4_tellAll_19 : decode cX4_tellAll 19 = .ok (.iconst 0, 1) := by decide +kernel
theorem dX4_tellAll_20 : decode cX4_tellAll 20 = .ok (.istore_n 1, 1) := by decide +kernel
theorem dX4_tellAll_21 : decode cX4_tellAll 21 = .ok (.iconst 0, 1) := by decide +kernel
theorem dX4_tellAll_22 : decode cX4_tellAll 22 = .ok (.istore_n 2, 1) := by decide +kernel
theorem dX4_tellAll_23 : decode cX4_tellAll 23 = .ok (.iload_n 2, 1) := by decide +kernel
theorem dX4_tellAll_24 : decode cX4_tellAll 24 = .ok (.aload_n 0, 1) := by decide +kernel
theorem dX4_tellAll_25 : decode cX4_tellAll 25 = .ok (.getfield 9, 3) := by decide +kernel
theorem dX4_tellAll_28 : decode cX4_tellAll 28 = .ok (.getfield 90, 3) := by decide +kernel
theorem dX4_tellAll_31 : decode cX4_tellAll 31 = .ok (.if_icmp .ge 45, 3) := by decide +kernel
theorem dX4_tellAll_34 : decode cX4_tellAll 34 = .ok (.aload_n 0, 1) := by decide +kernel
theorem dX4_tellAll_35 : decode cX4_tellAll 35 = .ok (.getfield 9, 3) := by decide +kernel
theorem dX4_tellAll_38 : decode cX4_tellAll 38 = .ok (.getfield 93, 3) := by decide +kernel
theorem dX4_tellAll_41 : decode cX4_tellAll 41 = .ok (.iload_n 2, 1) := by decide +kernel
theorem dX4_tellAll_42 : decode cX4_tellAll 42 = .ok (.baload, 1) := by decide +kernel
theorem dX4_tellAll_43 : decode cX4_tellAll 43 = .ok (.ifCond .eq 27, 3) := by decide +kernel
theorem dX4_tellAll_46 : decode cX4_tellAll 46 = .ok (.iload_n 1, 1) := by decide +kernel
theorem dX4_tellAll_47 : decode cX4_tellAll 47 = .ok (.ifCond .le 12, 3) := by decide +kernel
theorem dX4_tellAll_50 : decode cX4_tellAll 50 = .ok (.aload_n 0, 1) := by decide +kernel
theorem dX4_tellAll_51 : decode cX4_tellAll 51 = .ok (.getfield 23, 3) := by decide +kernel
theorem dX4_tellAll_54 : decode cX4_tellAll 54 = .ok (.bipush 44, 2) := by decide +kernel
theorem dX4_tellAll_56 : decode cX4_tellAll 56 = .ok (.invokevirtual 71, 3) := by decide +kernel
theorem dX4_tellAll_59 : decode cX4_tellAll 59 = .ok (.aload_n 0, 1) := by decide +kernel
theorem dX4_tellAll_60 : decode cX4_tellAll 60 = .ok (.getfield 23, 3) := by decide +kernel
theorem dX4_tellAll_63 : decode cX4_tellAll 63 = .ok (.iload_n 2, 1) := by decide +kernel
theorem dX4_tellAll_64 : decode cX4_tellAll 64 = .ok (.invokevirtual 33, 3) := by decide +kernel
theorem dX4_tellAll_67 : decode cX4_tellAll 67 = .ok (.iinc 1 1, 3) := by decide +kernel
theorem dX4_tellAll_70 : decode cX4_tellAll 70 = .ok (.iinc 2 1, 3) := by decide +kernel
theorem dX4_tellAll_73 : decode cX4_tellAll 73 = .ok (.goto (-50), 3) := by decide +kernel
theorem dX4_tellAll_76 : decode cX4_tellAll 76 = .ok (.return_, 1) := by decide +kernel
theorem dX5_init_0 : decode cX5_init 0 = .ok (.aload_n 0, 1) := by decide +kernel
theorem dX5_init_1 : decode cX5_init 1 = .ok (.invokespecial 3, 3) := by decide +kernel
theorem dX5_init_4 : decode cX5_init 4 = .ok (.aload_n 0, 1) := by decide +kernel
theorem dX5_init_5 : decode cX5_init 5 = .ok (.bipush 120, 2) := by decide +kernel
theorem dX5_init_7 : decode cX5_init 7 = .ok (.newarray .byte, 2) := by decide +kernel
theorem dX5_init_9 : decode cX5_init 9 = .ok (.putfield 9, 3) := by decide +kernel
theorem dX5_init_12 : decode cX5_init 12 = .ok (.aload_n 0, 1) := by decide +kernel
theorem dX5_init_13 : decode cX5_init 13 = .ok (.iconst 0, 1) := by decide +kernel
theorem dX5_init_14 : decode cX5_init 14 = .ok (.putfield 15, 3) := by decide +kernel
theorem dX5_init_17 : decode cX5_init 17 = .ok (.return_, 1) := by decide +kernel
theorem dX5_put_0 : decode cX5_put 0 = .ok (.aload_n 0, 1) := by decide +kernel
theorem dX5_put_1 : decode cX5_put 1 = .ok (.getfield 15, 3) := by decide +kernel
theorem dX5_put_4 : decode cX5_put 4 = .ok (.bipush 120, 2) := by decide +kernel
theorem dX5_put_6 : decode cX5_put 6 = .ok (.if_icmp .ge 24, 3) := by decide +kernel
theorem dX5_put_9 : decode cX5_put 9 = .ok (.aload_n 0, 1) := by decide +kernel
theorem dX5_put_10 : decode cX5_put 10 = .ok (.getfield 9, 3) := by decide +kernel
theorem dX5_put_13 : decode cX5_put 13 = .ok (.aload_n 0, 1) := by decide +kernel
theorem dX5_put_14 : decode cX5_put 14 = .ok (.getfield 15, 3) := by decide +kernel
theorem dX5_put_17 : decode cX5_put 17 = .ok (.iload_n 1, 1) := by decide +kernel
theorem dX5_put_18 : decode cX5_put 18 = .ok (.i2b, 1) := by decide +kernel
theorem dX5_put_19 : decode cX5_put 19 = .ok (.bastore, 1) := by decide +kernel
theorem dX5_put_20 : decode cX5_put 20 = .ok (.aload_n 0, 1) := by decide +kernel
theorem dX5_put_21 : decode cX5_put 21 = .ok (.dup, 1) := by decide +kernel
theorem dX5_put_22 : decode cX5_put 22 = .ok (.getfield 15, 3) := by decide +kernel
theorem dX5_put_25 : decode cX5_put 25 = .ok (.iconst 1, 1) := by decide +kernel
theorem dX5_put_26 : decode cX5_put 26 = .ok (.iadd, 1) := by decide +kernel
theorem dX5_put_27 : decode cX5_put 27 = .ok (.putfield 15, 3) := by decide +kernel
theorem dX5_put_30 : decode cX5_put 30 = .ok (.aload_n 0, 1) := by decide +kernel
theorem dX5_put_31 : decode cX5_put 31 = .ok (.getfield 15, 3) := by decide +kernel
theorem dX5_put_34 : decode cX5_put 34 = .ok (.ireturn, 1) := by decide +kernel
theorem dX5_empty_0 : decode cX5_empty 0 = .ok (.aload_n 0, 1) := by decide +kernel
theorem dX5_empty_1 : decode cX5_empty 1 = .ok (.getfield 15, 3) := by decide +kernel
theorem dX5_empty_4 : decode cX5_empty 4 = .ok (.istore_n 1, 1) := by decide +kernel
theorem dX5_empty_5 : decode cX5_empty 5 = .ok (.aload_n 0, 1) := by decide +kernel
theorem dX5_empty_6 : decode cX5_empty 6 = .ok (.iconst 0, 1) := by decide +kernel
theorem dX5_empty_7 : decode cX5_empty 7 = .ok (.putfield 15, 3) := by decide +kernel
theorem dX5_empty_10 : decode cX5_empty 10 = .ok (.iload_n 1, 1) := by decide +kernel
theorem dX5_empty_11 : decode cX5_empty 11 = .ok (.ireturn, 1) := by decide +kernel
theorem dX5_byteAt_0 : decode cX5_byteAt 0 = .ok (.iload_n 1, 1) := by decide +kernel
theorem dX5_byteAt_1 : decode cX5_byteAt 1 = .ok (.ifCond .lt 20, 3) := by decide +kernel
theorem dX5_byteAt_4 : decode cX5_byteAt 4 = .ok (.iload_n 1, 1) := by decide +kernel
theorem dX5_byteAt_5 : decode cX5_byteAt 5 = .ok (.aload_n 0, 1) := by decide +kernel
theorem dX5_byteAt_6 : decode cX5_byteAt 6 = .ok (.getfield 15, 3) := by decide +kernel
theorem dX5_byteAt_9 : decode cX5_byteAt 9 = .ok (.if_icmp .ge 12, 3) := by decide +kernel
theorem dX5_byteAt_12 : decode cX5_byteAt 12 = .ok (.aload_n 0, 1) := by decide +kernel
theorem dX5_byteAt_13 : decode cX5_byteAt 13 = .ok (.getfield 9, 3) := by decide +kernel
theorem dX5_byteAt_16 : decode cX5_byteAt 16 = .ok (.iload_n 1, 1) := by decide +kernel
theorem dX5_byteAt_17 : decode cX5_byteAt 17 = .ok (.baload, 1) := by decide +kernel
theorem dX5_byteAt_18 : decode cX5_byteAt 18 = .ok (.goto 4, 3) := by decide +kernel
theorem dX5_byteAt_21 : decode cX5_byteAt 21 = .ok (.iconst (-1), 1) := by decide +kernel
theorem dX5_byteAt_22 : decode cX5_byteAt 22 = .ok (.ireturn, 1) := by decide +kernel
set_option maxRecDepth 20000 in
theorem ggX5_isLetter_X5_byteAt : GoodIn wsX5_isLetter wsX5_byteAt := goodIn_r _ [5, 6, 7, 8, 9] (by decide +kernel) (by decide +kernel)
set_option maxRecDepth 20000 in
theorem gX5_isLetter_X5_byteAt : GoodIn wsX5_isLetter (wsV RX5 19 RX5 yX5_byteAt wsX5_byteAt) := goodIn_app (goodIn_of _ (by decide +kernel)) ggX5_isLetter_X5_byteAt
theorem dX5_isLetter_0 : decode cX5_isLetter 0 = .ok (.aload_n 0, 1) := by decide +kernel
theorem dX5_isLetter_1 : decode cX5_isLetter 1 = .ok (.iload_n 1, 1) := by decide +kernel
theorem dX5_isLetter_2 : decode cX5_isLetter 2 = .ok (.invokevirtual 19, 3) := by decide +kernel
theorem dX5_isLetter_5 : decode cX5_isLetter 5 = .ok (.istore_n 2, 1) := by decide +kernel
theorem dX5_isLetter_6 : decode cX5_isLetter 6 = .ok (.iload_n 2, 1) := by decide +kernel
theorem dX5_isLetter_7 : decode cX5_isLetter 7 = .ok (.bipush 97, 2) := by decide +kernel
theorem dX5_isLetter_9 : decode cX5_isLetter 9 = .ok (.if_icmp .lt 13, 3) := by decide +kernel
theorem dX5_isLetter_12 : decode cX5_isLetter 12 = .ok (.iload_n 2, 1) := by decide +kernel
theorem dX5_isLetter_13 : decode cX5_isLetter 13 = .ok (.bipush 122, 2) := by decide +kernel
theorem dX5_isLetter_15 : decode cX5_isLetter 15 = .ok (.if_icmp .gt 7, 3) := by decide +kernel
theorem dX5_isLetter_18 : decode cX5_isLetter 18 = .ok (.iconst 1, 1) := by decide +kernel
theorem dX5_isLetter_19 : decode cX5_isLetter 19 = .ok (.goto 4, 3) := by decide +kernel
theorem dX5_isLetter_22 : decode cX5_isLetter 22 = .ok (.iconst 0, 1) := by decide +kernel
theorem dX5_isLetter_23 : decode cX5_isLetter 23 = .ok (.ireturn, 1) := by decide +kernel
set_option maxRecDepth 20000 in
theorem ggX5_isFigure_X5_byteAt : GoodIn wsX5_isFigure wsX5_byteAt := goodIn_r _ [5, 6, 7, 8, 9] (by decide +kernel) (by decide +kernel)
set_option maxRecDepth 20000 in
theorem gX5_isFigure_X5_byteAt : GoodIn wsX5_isFigure (wsV RX5 19 RX5 yX5_byteAt wsX5_byteAt) := goodIn_app (goodIn_of _ (by decide +kernel)) ggX5_isFigure_X5_byteAt
theorem dX5_isFigure_0 : decode cX5_isFigure 0 = .ok (.aload_n 0, 1) := by decide +kernel
theorem dX5_isFigure_1 : decode cX5_isFigure 1 = .ok (.iload_n 1, 1) := by decide +kernel
theorem dX5_isFigure_2 : decode cX5_isFigure 2 = .ok (.invokevirtual 19, 3) := by decide +kernel
theorem dX5_isFigure_5 : decode cX5_isFigure 5 = .ok (.istore_n 2, 1) := by decide +kernel
theorem dX5_isFigure_6 : decode cX5_isFigure 6 = .ok (.iload_n 2, 1) := by decide +kernel
theorem dX5_isFigure_7 : decode cX5_isFigure 7 = .ok (.bipush 48, 2) := by decide +kernel
theorem dX5_isFigure_9 : decode cX5_isFigure 9 = .ok (.if_icmp .lt 13, 3) := by decide +kernel
theorem dX5_isFigure_12 : decode cX5_isFigure 12 = .ok (.iload_n 2, 1) := by decide +kernel
theorem dX5_isFigure_13 : decode cX5_isFigure 13 = .ok (.bipush 57, 2) := by decide +kernel
theorem dX5_isFigure_15 : decode cX5_isFigure 15 = .ok (.if_icmp .gt 7, 3) := by decide +kernel
theorem dX5_isFigure_18 : decode cX5_isFigure 18 = .ok (.iconst 1, 1) := by decide +kernel
theorem dX5_isFigure_19 : decode cX5_isFigure 19 = .ok (.goto 4, 3) := by decide +kernel
theorem dX5_isFigure_22 : decode cX5_isFigure 22 = .ok (.iconst 0, 1) := by decide +kernel
theorem dX5_isFigure_23 : decode cX5_isFigure 23 = .ok (.ireturn, 1) := by decide +kernel
set_option maxRecDepth 20000 in
theorem ggX5_isWord_J0_length_8abf5 : GoodIn wsX5_isWord wsJ0_length_8abf5 := goodIn_r _ [5, 6, 7, 8, 9, 4, 10, 11, 12] (by decide +kernel) (by decide +kernel)
set_option maxRecDepth 20000 in
theorem gX5_isWord_J0_length_8abf5 : GoodIn wsX5_isWord (wsV RX5 23 RJ0 yJ0_length_8abf5 wsJ0_length_8abf5) := goodIn_app (goodIn_of _ (by decide +kernel)) ggX5_isWord_J0_length_8abf5
set_option maxRecDepth 20000 in
theorem ggX5_isWord_X5_byteAt : GoodIn wsX5_isWord wsX5_byteAt := goodIn_r _ [17, 18, 19, 57, 58] (by decide +kernel) (by decide +kernel)
set_option maxRecDepth 20000 in
theorem gX5_isWord_X5_byteAt : GoodIn wsX5_isWord (wsV RX5 19 RX5 yX5_byteAt wsX5_byteAt) := goodIn_app (goodIn_of _ (by decide +kernel)) ggX5_isWord_X5_byteAt
set_option maxRecDepth 20000 in
theorem ggX5_isWord_J0_charAt_5068e : GoodIn wsX5_isWord wsJ0_charAt_5068e := goodIn_r _ [23, 6, 24, 25, 26, 4, 27, 11, 12, 28, 29, 30, 31, 32, 33, 34, 35, 36, 37, 38, 39, 40, 41, 42, 43, 44, 45, 46, 47, 48, 49, 50, 51, 52, 53, 54, 55, 56] (by decide +kernel) (by decide +kernel)
set_option maxRecDepth 20000 in
theorem gX5_isWord_J0_charAt_5068e : GoodIn wsX5_isWord (wsV RX5 29 RJ0 yJ0_charAt_5068e wsJ0_charAt_5068e) := goodIn_app (goodIn_of _ (by decide +kernel)) ggX5_isWord_J0_charAt_5068e
theorem dX5_isWord_0 : decode cX5_isWord 0 = .ok (.iload_n 2, 1) := by decide +kernel
theorem dX5_isWord_1 : decode cX5_isWord 1 = .ok (.iload_n 1, 1) := by decide +kernel
theorem dX5_isWord_2 : decode cX5_isWord 2 = .ok (.isub, 1) := by decide +kernel
theorem dX5_isWord_3 : decode cX5_isWord 3 = .ok (.aload_n 3, 1) := by decide +kernel
theorem dX5_isWord_4 : decode cX5_isWord 4 = .ok (.invokevirtual 23, 3) := by decide +kernel
theorem dX5_isWord_7 : decode cX5_isWord 7 = .ok (.if_icmp .eq 5, 3) := by decide +kernel
theorem dX5_isWord_10 : decode cX5_isWord 10 = .ok (.iconst 0, 1) := by decide +kernel
theorem dX5_isWord_11 : decode cX5_isWord 11 = .ok (.ireturn, 1) := by decide +kernel
theorem dX5_isWord_12 : decode cX5_isWord 12 = .ok (.iconst 0, 1) := by decide +kernel
theorem dX5_isWord_13 : decode cX5_isWord 13 = .ok (.istore 4, 2) := by decide +kernel
theorem dX5_isWord_15 : decode cX5_isWord 15 = .ok (.iload 4, 2) := by decide +kernel
theorem dX5_isWord_17 : decode cX5_isWord 17 = .ok (.aload_n 3, 1) := by decide +kernel
theorem dX5_isWord_18 : decode cX5_isWord 18 = .ok (.invokevirtual 23, 3) := by decide +kernel
theorem dX5_isWord_21 : decode cX5_isWord 21 = .ok (.if_icmp .ge 28, 3) := by decide +kernel
theorem dX5_isWord_24 : decode cX5_isWord 24 = .ok (.aload_n 0, 1) := by decide +kernel
theorem dX5_isWord_25 : decode cX5_isWord 25 = .ok (.iload_n 1, 1) := by decide +kernel
theorem dX5_isWord_26 : decode cX5_isWord 26 = .ok (.iload 4, 2) := by decide +kernel
theorem dX5_isWord_28 : decode cX5_isWord 28 = .ok (.iadd, 1) := by decide +kernel
theorem dX5_isWord_29 : decode cX5_isWord 29 = .ok (.invokevirtual 19, 3) := by decide +kernel
theorem dX5_isWord_32 : decode cX5_isWord 32 = .ok (.aload_n 3, 1) := by decide +kernel
theorem dX5_isWord_33 : decode cX5_isWord 33 = .ok (.iload 4, 2) := by decide +kernel
theorem dX5_isWord_35 : decode cX5_isWord 35 = .ok (.invokevirtual 29, 3) := by decide +kernel
theorem dX5_isWord_38 : decode cX5_isWord 38 = .ok (.if_icmp .eq 5, 3) := by decide +kernel
theorem dX5_isWord_41 : decode cX5_isWord 41 = .ok (.iconst 0, 1) := by decide +kernel
theorem dX5_isWord_42 : decode cX5_isWord 42 = .ok (.ireturn, 1) := by decide +kernel
theorem dX5_isWord_43 : decode cX5_isWord 43 = .ok (.iinc 4 1, 3) := by decide +kernel
theorem dX5_isWord_46 : decode cX5_isWord 46 = .ok (.goto (-31), 3) := by decide +kernel
theorem dX5_isWord_49 : decode cX5_isWord 49 = .ok (.iconst 1, 1) := by decide +kernel
theorem dX5_isWord_50 : decode cX5_isWord 50 = .ok (.ireturn, 1) := by decide +kernel
theorem dX6_init_0 : decode cX6_init 0 = .ok (.aload_n 0, 1) := by decide +kernel
theorem dX6_init_1 : decode cX6_init 1 = .ok (.invokespecial 3, 3) := by decide +kernel
theorem dX6_init_4 : decode cX6_init 4 = .ok (.aload_n 0, 1) := by decide +kernel
theorem dX6_init_5 : decode cX6_init 5 = .ok (.bipush 60, 2) := by decide +kernel
theorem dX6_init_7 : decode cX6_init 7 = .ok (.newarray .int, 2) := by decide +kernel
theorem dX6_init_9 : decode cX6_init 9 = .ok (.putfield 9, 3) := by decide +kernel
theorem dX6_init_12 : decode cX6_init 12 = .ok (.aload_n 0, 1) := by decide +kernel
theorem dX6_init_13 : decode cX6_init 13 = .ok (.bipush 60, 2) := by decide +kernel
theorem dX6_init_15 : decode cX6_init 15 = .ok (.newarray .int, 2) := by decide +kernel
theorem dX6_init_17 : decode cX6_init 17 = .ok (.putfield 15, 3) := by decide +kernel
theorem dX6_init_20 : decode cX6_init 20 = .ok (.aload_n 0, 1) := by decide +kernel
theorem dX6_init_21 : decode cX6_init 21 = .ok (.aload_n 1, 1) := by decide +kernel
theorem dX6_init_22 : decode cX6_init 22 = .ok (.putfield 18, 3) := by decide +kernel
theorem dX6_init_25 : decode cX6_init 25 = .ok (.return_, 1) := by decide +kernel
theorem dX6_walk_0 : decode cX6_walk 0 = .ok (.iload_n 1, 1) := by decide +kernel
theorem dX6_walk_1 : decode cX6_walk 1 = .ok (.istore_n 3, 1) := by decide +kernel
theorem dX6_walk_2 : decode cX6_walk 2 = .ok (.iload_n 2, 1) := by decide +kernel
theorem dX6_walk_3 : decode cX6_walk 3 = .ok (.istore 4, 2) := by decide +kernel
theorem dX6_walk_5 : decode cX6_walk 5 = .ok (.iconst 0, 1) := by decide +kernel
theorem dX6_walk_6 : decode cX6_walk 6 = .ok (.istore 5, 2) := by decide +kernel
theorem dX6_walk_8 : decode cX6_walk 8 = .ok (.bipush 60, 2) := by decide +kernel
theorem dX6_walk_10 : decode cX6_walk 10 = .ok (.istore 6, 2) := by decide +kernel
theorem dX6_walk_12 : decode cX6_walk 12 = .ok (.iload_n 3, 1) := by decide +kernel
theorem dX6_walk_13 : decode cX6_walk 13 = .ok (.iload 4, 2) := by decide +kernel
theorem dX6_walk_15 : decode cX6_walk 15 = .ok (.if_icmp .eq 69, 3) := by decide +kernel
theorem dX6_walk_18 : decode cX6_walk 18 = .ok (.iload 5, 2) := by decide +kernel
theorem dX6_walk_20 : decode cX6_walk 20 = .ok (.iconst 1, 1) := by decide +kernel
theorem dX6_walk_21 : decode cX6_walk 21 = .ok (.iadd, 1) := by decide +kernel
theorem dX6_walk_22 : decode cX6_walk 22 = .ok (.iload 6, 2) := by decide +kernel
theorem dX6_walk_24 : decode cX6_walk 24 = .ok (.if_icmp .ge 60, 3) := by decide +kernel
theorem dX6_walk_27 : decode cX6_walk 27 = .ok (.iload_n 3, 1) := by decide +kernel
theorem dX6_walk_28 : decode cX6_walk 28 = .ok (.iload 4, 2) := by decide +kernel
theorem dX6_walk_30 : decode cX6_walk 30 = .ok (.if_icmp .le 27, 3) := by decide +kernel
theorem dX6_walk_33 : decode cX6_walk 33 = .ok (.aload_n 0, 1) := by decide +kernel
theorem dX6_walk_34 : decode cX6_walk 34 = .ok (.getfield 9, 3) := by decide +kernel
theorem dX6_walk_37 : decode cX6_walk 37 = .ok (.iload 5, 2) := by decide +kernel
theorem dX6_walk_39 : decode cX6_walk 39 = .ok (.iload_n 3, 1) := by decide +kernel
theorem dX6_walk_40 : decode cX6_walk 40 = .ok (.iastore, 1) := by decide +kernel
theorem dX6_walk_41 : decode cX6_walk 41 = .ok (.iinc 5 1, 3) := by decide +kernel
theorem dX6_walk_44 : decode cX6_walk 44 = .ok (.aload_n 0, 1) := by decide +kernel
theorem dX6_walk_45 : decode cX6_walk 45 = .ok (.getfield 18, 3) := by decide +kernel
theorem dX6_walk_48 : decode cX6_walk 48 = .ok (.getfield 22, 3) := by decide +kernel
theorem dX6_walk_51 : decode cX6_walk 51 = .ok (.iload_n 3, 1) := by decide +kernel
theorem dX6_walk_52 : decode cX6_walk 52 = .ok (.iaload, 1) := by decide +kernel
theorem dX6_walk_53 : decode cX6_walk 53 = .ok (.istore_n 3, 1) := by decide +kernel
theorem dX6_walk_54 : decode cX6_walk 54 = .ok (.goto (-42), 3) := by decide +kernel
theorem dX6_walk_57 : decode cX6_walk 57 = .ok (.iinc 6 (-1), 3) := by decide +kernel
theorem dX6_walk_60 : decode cX6_walk 60 = .ok (.aload_n 0, 1) := by decide +kernel
theorem dX6_walk_61 : decode cX6_walk 61 = .ok (.getfield 9, 3) := by decide +kernel
theorem dX6_walk_64 : decode cX6_walk 64 = .ok (.iload 6, 2) := by decide +kernel
theorem dX6_walk_66 : decode cX6_walk 66 = .ok (.iload 4, 2) := by decide +kernel
theorem dX6_walk_68 : decode cX6_walk 68 = .ok (.iastore, 1) := by decide +kernel
theorem dX6_walk_69 : decode cX6_walk 69 = .ok (.aload_n 0, 1) := by decide +kernel
theorem dX6_walk_70 : decode cX6_walk 70 = .ok (.getfield 18, 3) := by decide +kernel
theorem dX6_walk_73 : decode cX6_walk 73 = .ok (.getfield 22, 3) := by decide +kernel
theorem dX6_walk_76 : decode cX6_walk 76 = .ok (.iload 4, 2) := by decide +kernel
theorem dX6_walk_78 : decode cX6_walk 78 = .ok (.iaload, 1) := by decide +kernel
theorem dX6_walk_79 : decode cX6_walk 79 = .ok (.istore 4, 2) := by decide +kernel
theorem dX6_walk_81 : decode cX6_walk 81 = .ok (.goto (-69), 3) := by decide +kernel
theorem dX6_walk_84 : decode cX6_walk 84 = .ok (.aload_n 0, 1) := by decide +kernel
theorem dX6_walk_85 : decode cX6_walk 85 = .ok (.getfield 9, 3) := by decide +kernel
theorem dX6_walk_88 : decode cX6_walk 88 = .ok (.iload 5, 2) := by decide +kernel
theorem dX6_walk_90 : decode cX6_walk 90 = .ok (.iload_n 3, 1) := by decide +kernel
theorem dX6_walk_91 : decode cX6_walk 91 = .ok (.iastore, 1) := by decide +kernel
theorem dX6_walk_92 : decode cX6_walk 92 = .ok (.iinc 5 1, 3) := by decide +kernel
theorem dX6_walk_95 : decode cX6_walk 95 = .ok (.iload 6, 2) := by decide +kernel
theorem dX6_walk_97 : decode cX6_walk 97 = .ok (.istore 7, 2) := by decide +kernel
theorem dX6_walk_99 : decode cX6_walk 99 = .ok (.iload 7, 2) := by decide +kernel
theorem dX6_walk_101 : decode cX6_walk 101 = .ok (.bipush 60, 2) := by decide +kernel
theorem dX6_walk_103 : decode cX6_walk 103 = .ok (.if_icmp .ge 26, 3) := by decide +kernel
theorem dX6_walk_106 : decode cX6_walk 106 = .ok (.aload_n 0, 1) := by decide +kernel
theorem dX6_walk_107 : decode cX6_walk 107 = .ok (.getfield 9, 3) := by decide +kernel
theorem dX6_walk_110 : decode cX6_walk 110 = .ok (.iload 5, 2) := by decide +kernel
theorem dX6_walk_112 : decode cX6_walk 112 = .ok (.aload_n 0, 1) := by decide +kernel
theorem dX6_walk_113 : decode cX6_walk 113 = .ok (.getfield 9, 3) := by decide +kernel
theorem dX6_walk_116 : decode cX6_walk 116 = .ok (.iload 7, 2) := by decide +kernel
theorem dX6_walk_118 : decode cX6_walk 118 = .ok (.iaload, 1) := by decide +kernel
theorem dX6_walk_119 : decode cX6_walk 119 = .ok (.iastore, 1) := by decide +kernel
theorem dX6_walk_120 : decode cX6_walk 120 = .ok (.iinc 5 1, 3) := by decide +kernel
theorem dX6_walk_123 : decode cX6_walk 123 = .ok (.iinc 7 1, 3) := by decide +kernel
theorem dX6_walk_126 : decode cX6_walk 126 = .ok (.goto (-27), 3) := by decide +kernel
theorem dX6_walk_129 : decode cX6_walk 129 = .ok (.aload_n 0, 1) := by decide +kernel
theorem dX6_walk_130 : decode cX6_walk 130 = .ok (.iload 5, 2) := by decide +kernel
theorem dX6_walk_132 : decode cX6_walk 132 = .ok (.putfield 27, 3) := by decide +kernel
theorem dX6_walk_135 : decode cX6_walk 135 = .ok (.return_, 1) := by decide +kernel
set_option maxRecDepth 20000 in
theorem ggX6_span_X1_gap : GoodIn wsX6_span wsX1_gap := goodIn_r _ [7, 8, 13, 14, 15, 16, 17, 18] (by decide +kernel) (by decide +kernel)
set_option maxRecDepth 20000 in
theorem gX6_span_X1_gap : GoodIn wsX6_span (wsV RX6 34 RX1 yX1_gap wsX1_gap) := goodIn_app (goodIn_of _ (by decide +kernel)) ggX6_span_X1_gap
theorem dX6_span_0 : decode cX6_span 0 = .ok (.iconst 0, 1) := by decide +kernel
theorem dX6_span_1 : decode cX6_span 1 = .ok (.istore_n 2, 1) := by decide +kernel
theorem dX6_span_2 : decode cX6_span 2 = .ok (.iconst 0, 1) := by decide +kernel
theorem dX6_span_3 : decode cX6_span 3 = .ok (.istore_n 3, 1) := by decide +kernel
theorem dX6_span_4 : decode cX6_span 4 = .ok (.iconst 0, 1) := by decide +kernel
theorem dX6_span_5 : decode cX6_span 5 = .ok (.istore 4, 2) := by decide +kernel
theorem dX6_span_7 : decode cX6_span 7 = .ok (.iconst 0, 1) := by decide +kernel
theorem dX6_span_8 : decode cX6_span 8 = .ok (.istore 5, 2) := by decide +kernel
theorem dX6_span_10 : decode cX6_span 10 = .ok (.iload 5, 2) := by decide +kernel
theorem dX6_span_12 : decode cX6_span 12 = .ok (.aload_n 0, 1) := by decide +kernel
theorem dX6_span_13 : decode cX6_span 13 = .ok (.getfield 18, 3) := by decide +kernel
theorem dX6_span_16 : decode cX6_span 16 = .ok (.getfield 31, 3) := by decide +kernel
theorem dX6_span_19 : decode cX6_span 19 = .ok (.if_icmp .ge 64, 3) := by decide +kernel
theorem dX6_span_22 : decode cX6_span 22 = .ok (.iconst 0, 1) := by decide +kernel
theorem dX6_span_23 : decode cX6_span 23 = .ok (.istore 6, 2) := by decide +kernel
theorem dX6_span_25 : decode cX6_span 25 = .ok (.iload 6, 2) := by decide +kernel
theorem dX6_span_27 : decode cX6_span 27 = .ok (.aload_n 0, 1) := by decide +kernel
theorem dX6_span_28 : decode cX6_span 28 = .ok (.getfield 18, 3) := by decide +kernel
theorem dX6_span_31 : decode cX6_span 31 = .ok (.getfield 31, 3) := by decide +kernel
theorem dX6_span_34 : decode cX6_span 34 = .ok (.if_icmp .ge 43, 3) := by decide +kernel
theorem dX6_span_37 : decode cX6_span 37 = .ok (.aload_n 0, 1) := by decide +kernel
theorem dX6_span_38 : decode cX6_span 38 = .ok (.getfield 18, 3) := by decide +kernel
theorem dX6_span_41 : decode cX6_span 41 = .ok (.iload 5, 2) := by decide +kernel
theorem dX6_span_43 : decode cX6_span 43 = .ok (.iload 6, 2) := by decide +kernel
theorem dX6_span_45 : decode cX6_span 45 = .ok (.invokevirtual 34, 3) := by decide +kernel
theorem dX6_span_48 : decode cX6_span 48 = .ok (.iload_n 2, 1) := by decide +kernel
theorem dX6_span_49 : decode cX6_span 49 = .ok (.if_icmp .le 22, 3) := by decide +kernel
theorem dX6_span_52 : decode cX6_span 52 = .ok (.aload_n 0, 1) := by decide +kernel
theorem dX6_span_53 : decode cX6_span 53 = .ok (.getfield 18, 3) := by decide +kernel
theorem dX6_span_56 : decode cX6_span 56 = .ok (.iload 5, 2) := by decide +kernel
theorem dX6_span_58 : decode cX6_span 58 = .ok (.iload 6, 2) := by decide +kernel
theorem dX6_span_60 : decode cX6_span 60 = .ok (.invokevirtual 34, 3) := by decide +kernel
theorem dX6_span_63 : decode cX6_span 63 = .ok (.istore_n 2, 1) := by decide +kernel
theorem dX6_span_64 : decode cX6_span 64 = .ok (.iload 5, 2) := by decide +kernel
theorem dX6_span_66 : decode cX6_span 66 = .ok (.istore_n 3, 1) := by decide +kernel
theorem dX6_span_67 : decode cX6_span 67 = .ok (.iload 6, 2) := by decide +kernel
theorem dX6_span_69 : decode cX6_span 69 = .ok (.istore 4, 2) := by decide +kernel
theorem dX6_span_71 : decode cX6_span 71 = .ok (.iinc 6 1, 3) := by decide +kernel
theorem dX6_span_74 : decode cX6_span 74 = .ok (.goto (-49), 3) := by decide +kernel
theorem dX6_span_77 : decode cX6_span 77 = .ok (.iinc 5 1, 3) := by decide +kernel
theorem dX6_span_80 : decode cX6_span 80 = .ok (.goto (-70), 3) := by decide +kernel
theorem dX6_span_83 : decode cX6_span 83 = .ok (.iload_n 1, 1) := by decide +kernel
theorem dX6_span_84 : decode cX6_span 84 = .ok (.ifCond .ne 7, 3) := by decide +kernel
theorem dX6_span_87 : decode cX6_span 87 = .ok (.iload_n 2, 1) := by decide +kernel
theorem dX6_span_88 : decode cX6_span 88 = .ok (.goto 14, 3) := by decide +kernel
theorem dX6_span_91 : decode cX6_span 91 = .ok (.iload_n 1, 1) := by decide +kernel
theorem dX6_span_92 : decode cX6_span 92 = .ok (.iconst 1, 1) := by decide +kernel
theorem dX6_span_93 : decode cX6_span 93 = .ok (.if_icmp .ne 7, 3) := by decide +kernel
theorem dX6_span_96 : decode cX6_span 96 = .ok (.iload_n 3, 1) := by decide +kernel
theorem dX6_span_97 : decode cX6_span 97 = .ok (.goto 5, 3) := by decide +kernel
theorem dX6_span_100 : decode cX6_span 100 = .ok (.iload 4, 2) := by decide +kernel
theorem dX6_span_102 : decode cX6_span 102 = .ok (.ireturn, 1) := by decide +kernel
set_option maxRecDepth 20000 in
theorem ggX6_heart_X6_weigh : GoodIn wsX6_heart wsX6_weigh := goodIn_r _ [7, 1, 2, 8, 9, 36, 37, 38, 39, 40, 41, 42, 43, 44, 45] (by decide +kernel) (by decide +kernel)
set_option maxRecDepth 20000 in
theorem gX6_heart_X6_weigh : GoodIn wsX6_heart (wsV RX6 38 RX6 yX6_weigh wsX6_weigh) := goodIn_app (goodIn_of _ (by decide +kernel)) ggX6_heart_X6_weigh
set_option maxRecDepth 20000 in
theorem ggX6_heart_X6_burden : GoodIn wsX6_heart wsX6_burden := goodIn_r _ [13, 14, 15, 16, 6, 17, 1, 2, 18, 19, 20, 21, 22, 23, 24, 25, 26, 27, 28, 29, 30, 31, 32, 33, 34, 35, 8, 9, 36, 37, 38, 39, 40, 41, 42, 43, 44, 45] (by decide +kernel) (by decide +kernel)
set_option maxRecDepth 20000 in
theorem gX6_heart_X6_burden : GoodIn wsX6_heart (wsV RX6 41 RX6 yX6_burden wsX6_burden) := goodIn_app (goodIn_of _ (by decide +kernel)) ggX6_heart_X6_burden
theorem dX6_heart_0 : decode cX6_heart 0 = .ok (.aload_n 0, 1) := by decide +kernel
theorem dX6_heart_1 : decode cX6_heart 1 = .ok (.invokevirtual 38, 3) := by decide +kernel
theorem dX6_heart_4 : decode cX6_heart 4 = .ok (.iconst 0, 1) := by decide +kernel
theorem dX6_heart_5 : decode cX6_heart 5 = .ok (.istore_n 2, 1) := by decide +kernel
theorem dX6_heart_6 : decode cX6_heart 6 = .ok (.aload_n 0, 1) := by decide +kernel
theorem dX6_heart_7 : decode cX6_heart 7 = .ok (.iconst 0, 1) := by decide +kernel
theorem dX6_heart_8 : decode cX6_heart 8 = .ok (.iload_n 1, 1) := by decide +kernel
theorem dX6_heart_9 : decode cX6_heart 9 = .ok (.invokevirtual 41, 3) := by decide +kernel
theorem dX6_heart_12 : decode cX6_heart 12 = .ok (.istore_n 3, 1) := by decide +kernel
theorem dX6_heart_13 : decode cX6_heart 13 = .ok (.iconst 1, 1) := by decide +kernel
theorem dX6_heart_14 : decode cX6_heart 14 = .ok (.istore 4, 2) := by decide +kernel
theorem dX6_heart_16 : decode cX6_heart 16 = .ok (.iload 4, 2) := by decide +kernel
theorem dX6_heart_18 : decode cX6_heart 18 = .ok (.aload_n 0, 1) := by decide +kernel
theorem dX6_heart_19 : decode cX6_heart 19 = .ok (.getfield 18, 3) := by decide +kernel
theorem dX6_heart_22 : decode cX6_heart 22 = .ok (.getfield 31, 3) := by decide +kernel
theorem dX6_heart_25 : decode cX6_heart 25 = .ok (.if_icmp .ge 30, 3) := by decide +kernel
theorem dX6_heart_28 : decode cX6_heart 28 = .ok (.aload_n 0, 1) := by decide +kernel
theorem dX6_heart_29 : decode cX6_heart 29 = .ok (.iload 4, 2) := by decide +kernel
theorem dX6_heart_31 : decode cX6_heart 31 = .ok (.iload_n 1, 1) := by decide +kernel
theorem dX6_heart_32 : decode cX6_heart 32 = .ok (.invokevirtual 41, 3) := by decide +kernel
theorem dX6_heart_35 : decode cX6_heart 35 = .ok (.istore 5, 2) := by decide +kernel
theorem dX6_heart_37 : decode cX6_heart 37 = .ok (.iload 5, 2) := by decide +kernel
theorem dX6_heart_39 : decode cX6_heart 39 = .ok (.iload_n 3, 1) := by decide +kernel
theorem dX6_heart_40 : decode cX6_heart 40 = .ok (.if_icmp .ge 9, 3) := by decide +kernel
theorem dX6_heart_43 : decode cX6_heart 43 = .ok (.iload 5, 2) := by decide +kernel
theorem dX6_heart_45 : decode cX6_heart 45 = .ok (.istore_n 3, 1) := by decide +kernel
theorem dX6_heart_46 : decode cX6_heart 46 = .ok (.iload 4, 2) := by decide +kernel
theorem dX6_heart_48 : decode cX6_heart 48 = .ok (.istore_n 2, 1) := by decide +kernel
theorem dX6_heart_49 : decode cX6_heart 49 = .ok (.iinc 4 1, 3) := by decide +kernel
theorem dX6_heart_52 : decode cX6_heart 52 = .ok (.goto (-36), 3) := by decide +kernel
theorem dX6_heart_55 : decode cX6_heart 55 = .ok (.iload_n 2, 1) := by decide +kernel
theorem dX6_heart_56 : decode cX6_heart 56 = .ok (.ireturn, 1) := by decide +kernel
set_option maxRecDepth 20000 in
theorem ggX6_burden_X6_farthest : GoodIn wsX6_burden wsX6_farthest := goodIn_r _ [5, 6, 7, 8, 9, 10, 11, 12, 13, 14, 15, 16, 17, 28, 29, 30, 31, 32, 33, 34, 35, 36, 37] (by decide +kernel) (by decide +kernel)
set_option maxRecDepth 20000 in
theorem gX6_burden_X6_farthest : GoodIn wsX6_burden (wsV RX6 44 RX6 yX6_farthest wsX6_farthest) := goodIn_app (goodIn_of _ (by decide +kernel)) ggX6_burden_X6_farthest
set_option maxRecDepth 20000 in
theorem ggX6_burden_X6_distanceOfAll : GoodIn wsX6_burden wsX6_distanceOfAll := goodIn_r _ [21, 6, 7, 12, 13, 14, 15, 16, 17, 28, 29, 30, 31, 32, 33, 34, 35, 36, 37] (by decide +kernel) (by decide +kernel)
set_option maxRecDepth 20000 in
theorem gX6_burden_X6_distanceOfAll : GoodIn wsX6_burden (wsV RX6 48 RX6 yX6_distanceOfAll wsX6_distanceOfAll) := goodIn_app (goodIn_of _ (by decide +kernel)) ggX6_burden_X6_distanceOfAll
set_option maxRecDepth 20000 in
theorem ggX6_burden_X6_greatestRest : GoodIn wsX6_burden wsX6_greatestRest := goodIn_r _ [25, 6, 7, 26, 27, 8, 9, 10, 11, 28, 29, 30, 31, 32, 33, 34, 35, 36, 37] (by decide +kernel) (by decide +kernel)
set_option maxRecDepth 20000 in
theorem gX6_burden_X6_greatestRest : GoodIn wsX6_burden (wsV RX6 51 RX6 yX6_greatestRest wsX6_greatestRest) := goodIn_app (goodIn_of _ (by decide +kernel)) ggX6_burden_X6_greatestRest
theorem dX6_burden_0 : decode cX6_burden 0 = .ok (.iload_n 2, 1) := by decide +kernel
theorem dX6_burden_1 : decode cX6_burden 1 = .ok (.ifCond .ne 11, 3) := by decide +kernel
theorem dX6_burden_4 : decode cX6_burden 4 = .ok (.aload_n 0, 1) := by decide +kernel
theorem dX6_burden_5 : decode cX6_burden 5 = .ok (.iload_n 1, 1) := by decide +kernel
theorem dX6_burden_6 : decode cX6_burden 6 = .ok (.invokevirtual 44, 3) := by decide +kernel
theorem dX6_burden_9 : decode cX6_burden 9 = .ok (.goto 21, 3) := by decide +kernel
theorem dX6_burden_12 : decode cX6_burden 12 = .ok (.iload_n 2, 1) := by decide +kernel
theorem dX6_burden_13 : decode cX6_burden 13 = .ok (.iconst 1, 1) := by decide +kernel
theorem dX6_burden_14 : decode cX6_burden 14 = .ok (.if_icmp .ne 11, 3) := by decide +kernel
theorem dX6_burden_17 : decode cX6_burden 17 = .ok (.aload_n 0, 1) := by decide +kernel
theorem dX6_burden_18 : decode cX6_burden 18 = .ok (.iload_n 1, 1) := by decide +kernel
theorem dX6_burden_19 : decode cX6_burden 19 = .ok (.invokevirtual 48, 3) := by decide +kernel
theorem dX6_burden_22 : decode cX6_burden 22 = .ok (.goto 8, 3) := by decide +kernel
theorem dX6_burden_25 : decode cX6_burden 25 = .ok (.aload_n 0, 1) := by decide +kernel
theorem dX6_burden_26 : decode cX6_burden 26 = .ok (.iload_n 1, 1) := by decide +kernel
theorem dX6_burden_27 : decode cX6_burden 27 = .ok (.invokevirtual 51, 3) := by decide +kernel
theorem dX6_burden_30 : decode cX6_burden 30 = .ok (.ireturn, 1) := by decide +kernel
set_option maxRecDepth 20000 in
theorem ggX6_farthest_X1_gap : GoodIn wsX6_farthest wsX1_gap := goodIn_r _ [11, 12, 17, 18, 19, 20, 21, 22] (by decide +kernel) (by decide +kernel)
set_option maxRecDepth 20000 in
theorem gX6_farthest_X1_gap : GoodIn wsX6_farthest (wsV RX6 34 RX1 yX1_gap wsX1_gap) := goodIn_app (goodIn_of _ (by decide +kernel)) ggX6_farthest_X1_gap
theorem dX6_farthest_0 : decode cX6_farthest 0 = .ok (.iconst 0, 1) := by decide +kernel
theorem dX6_farthest_1 : decode cX6_farthest 1 = .ok (.istore_n 2, 1) := by decide +kernel
theorem dX6_farthest_2 : decode cX6_farthest 2 = .ok (.iconst 0, 1) := by decide +kernel
theorem dX6_farthest_3 : decode cX6_farthest 3 = .ok (.istore_n 3, 1) := by decide +kernel
theorem dX6_farthest_4 : decode cX6_farthest 4 = .ok (.iload_n 3, 1) := by decide +kernel
theorem dX6_farthest_5 : decode cX6_farthest 5 = .ok (.aload_n 0, 1) := by decide +kernel
theorem dX6_farthest_6 : decode cX6_farthest 6 = .ok (.getfield 18, 3) := by decide +kernel
theorem dX6_farthest_9 : decode cX6_farthest 9 = .ok (.getfield 31, 3) := by decide +kernel
theorem dX6_farthest_12 : decode cX6_farthest 12 = .ok (.if_icmp .ge 23, 3) := by decide +kernel
theorem dX6_farthest_15 : decode cX6_farthest 15 = .ok (.iload_n 2, 1) := by decide +kernel
theorem dX6_farthest_16 : decode cX6_farthest 16 = .ok (.aload_n 0, 1) := by decide +kernel
theorem dX6_farthest_17 : decode cX6_farthest 17 = .ok (.getfield 18, 3) := by decide +kernel
theorem dX6_farthest_20 : decode cX6_farthest 20 = .ok (.iload_n 1, 1) := by decide +kernel
theorem dX6_farthest_21 : decode cX6_farthest 21 = .ok (.iload_n 3, 1) := by decide +kernel
theorem dX6_farthest_22 : decode cX6_farthest 22 = .ok (.invokevirtual 34, 3) := by decide +kernel
theorem dX6_farthest_25 : decode cX6_farthest 25 = .ok (.invokestatic 54, 3) := by decide +kernel
theorem dX6_farthest_28 : decode cX6_farthest 28 = .ok (.istore_n 2, 1) := by decide +kernel
theorem dX6_farthest_29 : decode cX6_farthest 29 = .ok (.iinc 3 1, 3) := by decide +kernel
theorem dX6_farthest_32 : decode cX6_farthest 32 = .ok (.goto (-28), 3) := by decide +kernel
theorem dX6_farthest_35 : decode cX6_farthest 35 = .ok (.iload_n 2, 1) := by decide +kernel
theorem dX6_farthest_36 : decode cX6_farthest 36 = .ok (.ireturn, 1) := by decide +kernel
set_option maxRecDepth 20000 in
theorem ggX6_distanceOfAll_X1_gap : GoodIn wsX6_distanceOfAll wsX1_gap := goodIn_r _ [7, 8, 13, 14, 15, 16, 17, 18] (by decide +kernel) (by decide +kernel)
set_option maxRecDepth 20000 in
theorem gX6_distanceOfAll_X1_gap : GoodIn wsX6_distanceOfAll (wsV RX6 34 RX1 yX1_gap wsX1_gap) := goodIn_app (goodIn_of _ (by decide +kernel)) ggX6_distanceOfAll_X1_gap
theorem dX6_distanceOfAll_0 : decode cX6_distanceOfAll 0 = .ok (.iconst 0, 1) := by decide +kernel
theorem dX6_distanceOfAll_1 : decode cX6_distanceOfAll 1 = .ok (.istore_n 2, 1) := by decide +kernel
theorem dX6_distanceOfAll_2 : decode cX6_distanceOfAll 2 = .ok (.iconst 0, 1) := by decide +kernel
theorem dX6_distanceOfAll_3 : decode cX6_distanceOfAll 3 = .ok (.istore_n 3, 1) := by decide +kernel
theorem dX6_distanceOfAll_4 : decode cX6_distanceOfAll 4 = .ok (.iload_n 3, 1) := by decide +kernel
theorem dX6_distanceOfAll_5 : decode cX6_distanceOfAll 5 = .ok (.aload_n 0, 1) := by decide +kernel
theorem dX6_distanceOfAll_6 : decode cX6_distanceOfAll 6 = .ok (.getfield 18, 3) := by decide +kernel
theorem dX6_distanceOfAll_9 : decode cX6_distanceOfAll 9 = .ok (.getfield 31, 3) := by decide +kernel
theorem dX6_distanceOfAll_12 : decode cX6_distanceOfAll 12 = .ok (.if_icmp .ge 21, 3) := by decide +kernel
theorem dX6_distanceOfAll_15 : decode cX6_distanceOfAll 15 = .ok (.iload_n 2, 1) := by decide +kernel
theorem dX6_distanceOfAll_16 : decode cX6_distanceOfAll 16 = .ok (.aload_n 0, 1) := by decide +kernel
theorem dX6_distanceOfAll_17 : decode cX6_distanceOfAll 17 = .ok (.getfield 18, 3) := by decide +kernel
theorem dX6_distanceOfAll_20 : decode cX6_distanceOfAll 20 = .ok (.iload_n 1, 1) := by decide +kernel
theorem dX6_distanceOfAll_21 : decode cX6_distanceOfAll 21 = .ok (.iload_n 3, 1) := by decide +kernel
theorem dX6_distanceOfAll_22 : decode cX6_distanceOfAll 22 = .ok (.invokevirtual 34, 3) := by decide +kernel
theorem dX6_distanceOfAll_25 : decode cX6_distanceOfAll 25 = .ok (.iadd, 1) := by decide +kernel
theorem dX6_distanceOfAll_26 : decode cX6_distanceOfAll 26 = .ok (.istore_n 2, 1) := by decide +kernel
theorem dX6_distanceOfAll_27 : decode cX6_distanceOfAll 27 = .ok (.iinc 3 1, 3) := by decide +kernel
theorem dX6_distanceOfAll_30 : decode cX6_distanceOfAll 30 = .ok (.goto (-26), 3) := by decide +kernel
theorem dX6_distanceOfAll_33 : decode cX6_distanceOfAll 33 = .ok (.iload_n 2, 1) := by decide +kernel
theorem dX6_distanceOfAll_34 : decode cX6_distanceOfAll 34 = .ok (.ireturn, 1) := by decide +kernel
theorem dX6_greatestRest_0 : decode cX6_greatestRest 0 = .ok (.aload_n 0, 1) := by decide +kernel
theorem dX6_greatestRest_1 : decode cX6_greatestRest 1 = .ok (.getfield 18, 3) := by decide +kernel
theorem dX6_greatestRest_4 : decode cX6_greatestRest 4 = .ok (.getfield 31, 3) := by decide +kernel
theorem dX6_greatestRest_7 : decode cX6_greatestRest 7 = .ok (.aload_n 0, 1) := by decide +kernel
theorem dX6_greatestRest_8 : decode cX6_greatestRest 8 = .ok (.getfield 15, 3) := by decide +kernel
theorem dX6_greatestRest_11 : decode cX6_greatestRest 11 = .ok (.iload_n 1, 1) := by decide +kernel
theorem dX6_greatestRest_12 : decode cX6_greatestRest 12 = .ok (.iaload, 1) := by decide +kernel
theorem dX6_greatestRest_13 : decode cX6_greatestRest 13 = .ok (.isub, 1) := by decide +kernel
theorem dX6_greatestRest_14 : decode cX6_greatestRest 14 = .ok (.istore_n 2, 1) := by decide +kernel
theorem dX6_greatestRest_15 : decode cX6_greatestRest 15 = .ok (.iconst 1, 1) := by decide +kernel
theorem dX6_greatestRest_16 : decode cX6_greatestRest 16 = .ok (.istore_n 3, 1) := by decide +kernel
theorem dX6_greatestRest_17 : decode cX6_greatestRest 17 = .ok (.iload_n 3, 1) := by decide +kernel
theorem dX6_greatestRest_18 : decode cX6_greatestRest 18 = .ok (.aload_n 0, 1) := by decide +kernel
theorem dX6_greatestRest_19 : decode cX6_greatestRest 19 = .ok (.getfield 18, 3) := by decide +kernel
theorem dX6_greatestRest_22 : decode cX6_greatestRest 22 = .ok (.getfield 31, 3) := by decide +kernel
theorem dX6_greatestRest_25 : decode cX6_greatestRest 25 = .ok (.if_icmp .ge 33, 3) := by decide +kernel
theorem dX6_greatestRest_28 : decode cX6_greatestRest 28 = .ok (.aload_n 0, 1) := by decide +kernel
theorem dX6_greatestRest_29 : decode cX6_greatestRest 29 = .ok (.getfield 18, 3) := by decide +kernel
theorem dX6_greatestRest_32 : decode cX6_greatestRest 32 = .ok (.getfield 22, 3) := by decide +kernel
theorem dX6_greatestRest_35 : decode cX6_greatestRest 35 = .ok (.iload_n 3, 1) := by decide +kernel
theorem dX6_greatestRest_36 : decode cX6_greatestRest 36 = .ok (.iaload, 1) := by decide +kernel
theorem dX6_greatestRest_37 : decode cX6_greatestRest 37 = .ok (.iload_n 1, 1) := by decide +kernel
theorem dX6_greatestRest_38 : decode cX6_greatestRest 38 = .ok (.if_icmp .ne 14, 3) := by decide +kernel
theorem dX6_greatestRest_41 : decode cX6_greatestRest 41 = .ok (.iload_n 2, 1) := by decide +kernel
theorem dX6_greatestRest_42 : decode cX6_greatestRest 42 = .ok (.aload_n 0, 1) := by decide +kernel
theorem dX6_greatestRest_43 : decode cX6_greatestRest 43 = .ok (.getfield 15, 3) := by decide +kernel
theorem dX6_greatestRest_46 : decode cX6_greatestRest 46 = .ok (.iload_n 3, 1) := by decide +kernel
theorem dX6_greatestRest_47 : decode cX6_greatestRest 47 = .ok (.iaload, 1) := by decide +kernel
theorem dX6_greatestRest_48 : decode cX6_greatestRest 48 = .ok (.invokestatic 54, 3) := by decide +kernel
theorem dX6_greatestRest_51 : decode cX6_greatestRest 51 = .ok (.istore_n 2, 1) := by decide +kernel
theorem dX6_greatestRest_52 : decode cX6_greatestRest 52 = .ok (.iinc 3 1, 3) := by decide +kernel
theorem dX6_greatestRest_55 : decode cX6_greatestRest 55 = .ok (.goto (-38), 3) := by decide +kernel
theorem dX6_greatestRest_58 : decode cX6_greatestRest 58 = .ok (.iload_n 2, 1) := by decide +kernel
theorem dX6_greatestRest_59 : decode cX6_greatestRest 59 = .ok (.ireturn, 1) := by decide +kernel
theorem dX6_weigh_0 : decode cX6_weigh 0 = .ok (.iconst 0, 1) := by decide +kernel
theorem dX6_weigh_1 : decode cX6_weigh 1 = .ok (.istore_n 1, 1) := by decide +kernel
theorem dX6_weigh_2 : decode cX6_weigh 2 = .ok (.iload_n 1, 1) := by decide +kernel
theorem dX6_weigh_3 : decode cX6_weigh 3 = .ok (.aload_n 0, 1) := by decide +kernel
theorem dX6_weigh_4 : decode cX6_weigh 4 = .ok (.getfield 18, 3) := by decide +kernel
theorem dX6_weigh_7 : decode cX6_weigh 7 = .ok (.getfield 31, 3) := by decide +kernel
theorem dX6_weigh_10 : decode cX6_weigh 10 = .ok (.if_icmp .ge 16, 3) := by decide +kernel
theorem dX6_weigh_13 : decode cX6_weigh 13 = .ok (.aload_n 0, 1) := by decide +kernel
theorem dX6_weigh_14 : decode cX6_weigh 14 = .ok (.getfield 15, 3) := by decide +kernel
theorem dX6_weigh_17 : decode cX6_weigh 17 = .ok (.iload_n 1, 1) := by decide +kernel
theorem dX6_weigh_18 : decode cX6_weigh 18 = .ok (.iconst 1, 1) := by decide +kernel
theorem dX6_weigh_19 : decode cX6_weigh 19 = .ok (.iastore, 1) := by decide +kernel
theorem dX6_weigh_20 : decode cX6_weigh 20 = .ok (.iinc 1 1, 3) := by decide +kernel
theorem dX6_weigh_23 : decode cX6_weigh 23 = .ok (.goto (-21), 3) := by decide +kernel
theorem dX6_weigh_26 : decode cX6_weigh 26 = .ok (.aload_n 0, 1) := by decide +kernel
theorem dX6_weigh_27 : decode cX6_weigh 27 = .ok (.getfield 18, 3) := by decide +kernel
theorem dX6_weigh_30 : decode cX6_weigh 30 = .ok (.getfield 31, 3) := by decide +kernel
theorem dX6_weigh_33 : decode cX6_weigh 33 = .ok (.iconst 1, 1) := by decide +kernel
theorem dX6_weigh_34 : decode cX6_weigh 34 = .ok (.isub, 1) := by decide +kernel
theorem dX6_weigh_35 : decode cX6_weigh 35 = .ok (.istore_n 1, 1) := by decide +kernel
theorem dX6_weigh_36 : decode cX6_weigh 36 = .ok (.iload_n 1, 1) := by decide +kernel
theorem dX6_weigh_37 : decode cX6_weigh 37 = .ok (.ifCond .le 32, 3) := by decide +kernel
theorem dX6_weigh_40 : decode cX6_weigh 40 = .ok (.aload_n 0, 1) := by decide +kernel
theorem dX6_weigh_41 : decode cX6_weigh 41 = .ok (.getfield 15, 3) := by decide +kernel
theorem dX6_weigh_44 : decode cX6_weigh 44 = .ok (.aload_n 0, 1) := by decide +kernel
theorem dX6_weigh_45 : decode cX6_weigh 45 = .ok (.getfield 18, 3) := by decide +kernel
theorem dX6_weigh_48 : decode cX6_weigh 48 = .ok (.getfield 22, 3) := by decide +kernel
theorem dX6_weigh_51 : decode cX6_weigh 51 = .ok (.iload_n 1, 1) := by decide +kernel
theorem dX6_weigh_52 : decode cX6_weigh 52 = .ok (.iaload, 1) := by decide +kernel
theorem dX6_weigh_53 : decode cX6_weigh 53 = .ok (.dup2, 1) := by decide +kernel
theorem dX6_weigh_54 : decode cX6_weigh 54 = .ok (.iaload, 1) := by decide +kernel
theorem dX6_weigh_55 : decode cX6_weigh 55 = .ok (.aload_n 0, 1) := by decide +kernel
theorem dX6_weigh_56 : decode cX6_weigh 56 = .ok (.getfield 15, 3) := by decide +kernel
theorem dX6_weigh_59 : decode cX6_weigh 59 = .ok (.iload_n 1, 1) := by decide +kernel
theorem dX6_weigh_60 : decode cX6_weigh 60 = .ok (.iaload, 1) := by decide +kernel
theorem dX6_weigh_61 : decode cX6_weigh 61 = .ok (.iadd, 1) := by decide +kernel
theorem dX6_weigh_62 : decode cX6_weigh 62 = .ok (.iastore, 1) := by decide +kernel
theorem dX6_weigh_63 : decode cX6_weigh 63 = .ok (.iinc 1 (-1), 3) := by decide +kernel
theorem dX6_weigh_66 : decode cX6_weigh 66 = .ok (.goto (-30), 3) := by decide +kernel
theorem dX6_weigh_69 : decode cX6_weigh 69 = .ok (.return_, 1) := by decide +kernel
set_option maxRecDepth 20000 in
theorem ggX7_find_X7_spelling : GoodIn wsX7_find wsX7_spelling := goodIn_r _ [4] (by decide +kernel) (by decide +kernel)
set_option maxRecDepth 20000 in
theorem gX7_find_X7_spelling : GoodIn wsX7_find (va_wsS RX7 11 yX7_spelling wsX7_spelling) := goodIn_app (goodIn_of _ (by decide +kernel)) ggX7_find_X7_spelling
set_option maxRecDepth 20000 in
theorem ggX7_find_X5_isWord : GoodIn wsX7_find wsX5_isWord := goodIn_r _ [9, 10, 11, 12, 13, 14, 15, 16, 17, 18, 19, 20, 21, 22, 23, 24, 8, 25, 26, 27, 28, 29, 30, 31, 32, 33, 34, 35, 36, 37, 38, 39, 40, 41, 42, 43, 44, 45, 46, 47, 48, 49, 50, 51, 52, 53, 54, 55, 56, 57, 58, 59, 60, 61, 62, 63, 64, 65, 66] (by decide +kernel) (by decide +kernel)
set_option maxRecDepth 20000 in
theorem gX7_find_X5_isWord : GoodIn wsX7_find (wsV RX7 15 RX5 yX5_isWord wsX5_isWord) := goodIn_app (goodIn_of _ (by decide +kernel)) ggX7_find_X5_isWord
theorem dX7_find_0 : decode cX7_find 0 = .ok (.iconst 0, 1) := by decide +kernel
theorem dX7_find_1 : decode cX7_find 1 = .ok (.istore_n 3, 1) := by decide +kernel
theorem dX7_find_2 : decode cX7_find 2 = .ok (.iload_n 3, 1) := by decide +kernel
theorem dX7_find_3 : decode cX7_find 3 = .ok (.bipush 10, 2) := by decide +kernel
theorem dX7_find_5 : decode cX7_find 5 = .ok (.if_icmp .ge 24, 3) := by decide +kernel
theorem dX7_find_8 : decode cX7_find 8 = .ok (.aload_n 0, 1) := by decide +kernel
theorem dX7_find_9 : decode cX7_find 9 = .ok (.iload_n 1, 1) := by decide +kernel
theorem dX7_find_10 : decode cX7_find 10 = .ok (.iload_n 2, 1) := by decide +kernel
theorem dX7_find_11 : decode cX7_find 11 = .ok (.iload_n 3, 1) := by decide +kernel
theorem dX7_find_12 : decode cX7_find 12 = .ok (.invokestatic 11, 3) := by decide +kernel
theorem dX7_find_15 : decode cX7_find 15 = .ok (.invokevirtual 15, 3) := by decide +kernel
theorem dX7_find_18 : decode cX7_find 18 = .ok (.ifCond .eq 5, 3) := by decide +kernel
theorem dX7_find_21 : decode cX7_find 21 = .ok (.iload_n 3, 1) := by decide +kernel
theorem dX7_find_22 : decode cX7_find 22 = .ok (.ireturn, 1) := by decide +kernel
theorem dX7_find_23 : decode cX7_find 23 = .ok (.iinc 3 1, 3) := by decide +kernel
theorem dX7_find_26 : decode cX7_find 26 = .ok (.goto (-24), 3) := by decide +kernel
theorem dX7_find_29 : decode cX7_find 29 = .ok (.iconst (-1), 1) := by decide +kernel
theorem dX7_find_30 : decode cX7_find 30 = .ok (.ireturn, 1) := by decide +kernel
theorem dX7_firstNeed_0 : decode cX7_firstNeed 0 = .ok (.iload_n 0, 1) := by decide +kernel
theorem dX7_firstNeed_1 : decode cX7_firstNeed 1 = .ok (.ifCond .lt 19, 3) := by decide +kernel
theorem dX7_firstNeed_4 : decode cX7_firstNeed 4 = .ok (.iload_n 0, 1) := by decide +kernel
theorem dX7_firstNeed_5 : decode cX7_firstNeed 5 = .ok (.getstatic 21, 3) := by decide +kernel
theorem dX7_firstNeed_8 : decode cX7_firstNeed 8 = .ok (.arraylength, 1) := by decide +kernel
theorem dX7_firstNeed_9 : decode cX7_firstNeed 9 = .ok (.if_icmp .ge 11, 3) := by decide +kernel
theorem dX7_firstNeed_12 : decode cX7_firstNeed 12 = .ok (.getstatic 21, 3) := by decide +kernel
theorem dX7_firstNeed_15 : decode cX7_firstNeed 15 = .ok (.iload_n 0, 1) := by decide +kernel
theorem dX7_firstNeed_16 : decode cX7_firstNeed 16 = .ok (.iaload, 1) := by decide +kernel
theorem dX7_firstNeed_17 : decode cX7_firstNeed 17 = .ok (.goto 4, 3) := by decide +kernel
theorem dX7_firstNeed_20 : decode cX7_firstNeed 20 = .ok (.iconst 0, 1) := by decide +kernel
theorem dX7_firstNeed_21 : decode cX7_firstNeed 21 = .ok (.ireturn, 1) := by decide +kernel
theorem dX7_secondNeed_0 : decode cX7_secondNeed 0 = .ok (.iload_n 0, 1) := by decide +kernel
theorem dX7_secondNeed_1 : decode cX7_secondNeed 1 = .ok (.ifCond .lt 19, 3) := by decide +kernel
theorem dX7_secondNeed_4 : decode cX7_secondNeed 4 = .ok (.iload_n 0, 1) := by decide +kernel
theorem dX7_secondNeed_5 : decode cX7_secondNeed 5 = .ok (.getstatic 25, 3) := by decide +kernel
theorem dX7_secondNeed_8 : decode cX7_secondNeed 8 = .ok (.arraylength, 1) := by decide +kernel
theorem dX7_secondNeed_9 : decode cX7_secondNeed 9 = .ok (.if_icmp .ge 11, 3) := by decide +kernel
theorem dX7_secondNeed_12 : decode cX7_secondNeed 12 = .ok (.getstatic 25, 3) := by decide +kernel
theorem dX7_secondNeed_15 : decode cX7_secondNeed 15 = .ok (.iload_n 0, 1) := by decide +kernel
theorem dX7_secondNeed_16 : decode cX7_secondNeed 16 = .ok (.iaload, 1) := by decide +kernel
theorem dX7_secondNeed_17 : decode cX7_secondNeed 17 = .ok (.goto 4, 3) := by decide +kernel
theorem dX7_secondNeed_20 : decode cX7_secondNeed 20 = .ok (.iconst 0, 1) := by decide +kernel
theorem dX7_secondNeed_21 : decode cX7_secondNeed 21 = .ok (.ireturn, 1) := by decide +kernel
set_option maxRecDepth 20000 in
theorem ggX7_suits_X8_isLength : GoodIn wsX7_suits wsX8_isLength := goodIn_r _ [3] (by decide +kernel) (by decide +kernel)
set_option maxRecDepth 20000 in
theorem gX7_suits_X8_isLength_n28 : GoodIn wsX7_suits (wsX8_isLength) := ggX7_suits_X8_isLength
theorem dX7_suits_0 : decode cX7_suits 0 = .ok (.iload_n 0, 1) := by decide +kernel
theorem dX7_suits_1 : decode cX7_suits 1 = .ok (.tableswitch 58 1 3 #[27, 38, 53], 27) := by decide +kernel
theorem dX7_suits_28 : decode cX7_suits 28 = .ok (.iload_n 1, 1) := by decide +kernel
theorem dX7_suits_29 : decode cX7_suits 29 = .ok (.iload_n 2, 1) := by decide +kernel
theorem dX7_suits_30 : decode cX7_suits 30 = .ok (.if_icmp .ge 7, 3) := by decide +kernel
theorem dX7_suits_33 : decode cX7_suits 33 = .ok (.iconst 1, 1) := by decide +kernel
theorem dX7_suits_34 : decode cX7_suits 34 = .ok (.goto 4, 3) := by decide +kernel
theorem dX7_suits_37 : decode cX7_suits 37 = .ok (.iconst 0, 1) := by decide +kernel
theorem dX7_suits_38 : decode cX7_suits 38 = .ok (.ireturn, 1) := by decide +kernel
theorem dX7_suits_39 : decode cX7_suits 39 = .ok (.iload_n 1, 1) := by decide +kernel
theorem dX7_suits_40 : decode cX7_suits 40 = .ok (.ifCond .le 12, 3) := by decide +kernel
theorem dX7_suits_43 : decode cX7_suits 43 = .ok (.iload_n 1, 1) := by decide +kernel
theorem dX7_suits_44 : decode cX7_suits 44 = .ok (.iload_n 2, 1) := by decide +kernel
theorem dX7_suits_45 : decode cX7_suits 45 = .ok (.if_icmp .ge 7, 3) := by decide +kernel
theorem dX7_suits_48 : decode cX7_suits 48 = .ok (.iconst 1, 1) := by decide +kernel
theorem dX7_suits_49 : decode cX7_suits 49 = .ok (.goto 4, 3) := by decide +kernel
theorem dX7_suits_52 : decode cX7_suits 52 = .ok (.iconst 0, 1) := by decide +kernel
theorem dX7_suits_53 : decode cX7_suits 53 = .ok (.ireturn, 1) := by decide +kernel
theorem dX7_suits_54 : decode cX7_suits 54 = .ok (.iload_n 1, 1) := by decide +kernel
theorem dX7_suits_55 : decode cX7_suits 55 = .ok (.invokestatic 28, 3) := by decide +kernel
theorem dX7_suits_58 : decode cX7_suits 58 = .ok (.ireturn, 1) := by decide +kernel
theorem dX7_suits_59 : decode cX7_suits 59 = .ok (.iload_n 1, 1) := by decide +kernel
theorem dX7_suits_60 : decode cX7_suits 60 = .ok (.bipush 99, 2) := by decide +kernel
theorem dX7_suits_62 : decode cX7_suits 62 = .ok (.if_icmp .gt 7, 3) := by decide +kernel
theorem dX7_suits_65 : decode cX7_suits 65 = .ok (.iconst 1, 1) := by decide +kernel
theorem dX7_suits_66 : decode cX7_suits 66 = .ok (.goto 4, 3) := by decide +kernel
theorem dX7_suits_69 : decode cX7_suits 69 = .ok (.iconst 0, 1) := by decide +kernel
theorem dX7_suits_70 : decode cX7_suits 70 = .ok (.ireturn, 1) := by decide +kernel
theorem dX7_spelling_0 : decode cX7_spelling 0 = .ok (.iload_n 0, 1) := by decide +kernel
theorem dX7_spelling_1 : decode cX7_spelling 1 = .ok (.tableswitch 78 0 8 #[51, 54, 57, 60, 63, 66, 69, 72, 75], 51) := by decide +kernel
theorem dX7_spelling_52 : decode cX7_spelling 52 = .ok (.ldc 32, 2) := by decide +kernel
theorem dX7_spelling_54 : decode cX7_spelling 54 = .ok (.areturn, 1) := by decide +kernel
theorem dX7_spelling_55 : decode cX7_spelling 55 = .ok (.ldc 34, 2) := by decide +kernel
theorem dX7_spelling_57 : decode cX7_spelling 57 = .ok (.areturn, 1) := by decide +kernel
theorem dX7_spelling_58 : decode cX7_spelling 58 = .ok (.ldc 36, 2) := by decide +kernel
theorem dX7_spelling_60 : decode cX7_spelling 60 = .ok (.areturn, 1) := by decide +kernel
theorem dX7_spelling_61 : decode cX7_spelling 61 = .ok (.ldc 38, 2) := by decide +kernel
theorem dX7_spelling_63 : decode cX7_spelling 63 = .ok (.areturn, 1) := by decide +kernel
theorem dX7_spelling_64 : decode cX7_spelling 64 = .ok (.ldc 40, 2) := by decide +kernel
theorem dX7_spelling_66 : decode cX7_spelling 66 = .ok (.areturn, 1) := by decide +kernel
theorem dX7_spelling_67 : decode cX7_spelling 67 = .ok (.ldc 42, 2) := by decide +kernel
theorem dX7_spelling_69 : decode cX7_spelling 69 = .ok (.areturn, 1) := by decide +kernel
theorem dX7_spelling_70 : decode cX7_spelling 70 = .ok (.ldc 44, 2) := by decide +kernel
theorem dX7_spelling_72 : decode cX7_spelling 72 = .ok (.areturn, 1) := by decide +kernel
theorem dX7_spelling_73 : decode cX7_spelling 73 = .ok (.ldc 46, 2) := by decide +kernel
theorem dX7_spelling_75 : decode cX7_spelling 75 = .ok (.areturn, 1) := by decide +kernel
theorem dX7_spelling_76 : decode cX7_spelling 76 = .ok (.ldc 48, 2) := by decide +kernel
theorem dX7_spelling_78 : decode cX7_spelling 78 = .ok (.areturn, 1) := by decide +kernel
theorem dX7_spelling_79 : decode cX7_spelling 79 = .ok (.ldc 50, 2) := by decide +kernel
theorem dX7_spelling_81 : decode cX7_spelling 81 = .ok (.areturn, 1) := by decide +kernel
set_option maxRecDepth 20000 in
theorem ggX8_init_X1_init : GoodIn wsX8_init wsX1_init := goodIn_r _ [34, 35, 2, 3, 36, 37, 38, 39, 40, 41, 42, 43, 44, 6, 45, 46, 47, 90, 91, 92, 93, 94, 95] (by decide +kernel) (by decide +kernel)
set_option maxRecDepth 20000 in
theorem gX8_init_X1_init : GoodIn wsX8_init (wsX1_init) := ggX8_init_X1_init
set_option maxRecDepth 20000 in
theorem ggX8_init_X6_init : GoodIn wsX8_init wsX6_init := goodIn_r _ [50, 51, 2, 3, 36, 52, 53, 54, 105, 106, 107, 108] (by decide +kernel) (by decide +kernel)
set_option maxRecDepth 20000 in
theorem gX8_init_X6_init : GoodIn wsX8_init (wsX6_init) := ggX8_init_X6_init
set_option maxRecDepth 20000 in
theorem ggX8_init_X0_init : GoodIn wsX8_init wsX0_init := goodIn_r _ [57, 58, 2, 3, 36, 59, 60, 109, 110] (by decide +kernel) (by decide +kernel)
set_option maxRecDepth 20000 in
theorem gX8_init_X0_init : GoodIn wsX8_init (wsX0_init) := ggX8_init_X0_init
set_option maxRecDepth 20000 in
theorem ggX8_init_X5_init : GoodIn wsX8_init wsX5_init := goodIn_r _ [63, 64, 2, 3, 65, 66, 67, 111, 112] (by decide +kernel) (by decide +kernel)
set_option maxRecDepth 20000 in
theorem gX8_init_X5_init : GoodIn wsX8_init (wsX5_init) := ggX8_init_X5_init
set_option maxRecDepth 20000 in
theorem ggX8_init_X3_init : GoodIn wsX8_init wsX3_init := goodIn_r _ [70, 71, 2, 3, 36, 72, 73, 74, 75, 113, 114, 115, 116, 117, 118, 119, 120] (by decide +kernel) (by decide +kernel)
set_option maxRecDepth 20000 in
theorem gX8_init_X3_init : GoodIn wsX8_init (wsX3_init) := ggX8_init_X3_init
set_option maxRecDepth 20000 in
theorem ggX8_init_X2_init : GoodIn wsX8_init wsX2_init := goodIn_r _ [78, 79, 2, 3, 65, 80, 81, 121, 122] (by decide +kernel) (by decide +kernel)
set_option maxRecDepth 20000 in
theorem gX8_init_X2_init : GoodIn wsX8_init (wsX2_init) := ggX8_init_X2_init
set_option maxRecDepth 20000 in
theorem ggX8_init_X4_init : GoodIn wsX8_init wsX4_init := goodIn_r _ [84, 85, 2, 3, 86, 87, 88, 89, 123, 124, 125, 126] (by decide +kernel) (by decide +kernel)
set_option maxRecDepth 20000 in
theorem gX8_init_X4_init : GoodIn wsX8_init (wsX4_init) := ggX8_init_X4_init
theorem dX8_init_0 : decode cX8_init 0 = .ok (.aload_n 0, 1) := by decide +kernel
theorem dX8_init_1 : decode cX8_init 1 = .ok (.invokespecial 3, 3) := by decide +kernel
theorem dX8_init_4 : decode cX8_init 4 = .ok (.aload_n 0, 1) := by decide +kernel
theorem dX8_init_5 : decode cX8_init 5 = .ok (.new 9, 3) := by decide +kernel
theorem dX8_init_8 : decode cX8_init 8 = .ok (.dup, 1) := by decide +kernel
theorem dX8_init_9 : decode cX8_init 9 = .ok (.invokespecial 11, 3) := by decide +kernel
theorem dX8_init_12 : decode cX8_init 12 = .ok (.putfield 12, 3) := by decide +kernel
theorem dX8_init_15 : decode cX8_init 15 = .ok (.aload_n 0, 1) := by decide +kernel
theorem dX8_init_16 : decode cX8_init 16 = .ok (.new 16, 3) := by decide +kernel
theorem dX8_init_19 : decode cX8_init 19 = .ok (.dup, 1) := by decide +kernel
theorem dX8_init_20 : decode cX8_init 20 = .ok (.aload_n 0, 1) := by decide +kernel
theorem dX8_init_21 : decode cX8_init 21 = .ok (.getfield 12, 3) := by decide +kernel
theorem dX8_init_24 : decode cX8_init 24 = .ok (.invokespecial 18, 3) := by decide +kernel
theorem dX8_init_27 : decode cX8_init 27 = .ok (.putfield 21, 3) := by decide +kernel
theorem dX8_init_30 : decode cX8_init 30 = .ok (.aload_n 0, 1) := by decide +kernel
theorem dX8_init_31 : decode cX8_init 31 = .ok (.new 25, 3) := by decide +kernel
theorem dX8_init_34 : decode cX8_init 34 = .ok (.dup, 1) := by decide +kernel
theorem dX8_init_35 : decode cX8_init 35 = .ok (.aload_n 0, 1) := by decide +kernel
theorem dX8_init_36 : decode cX8_init 36 = .ok (.getfield 12, 3) := by decide +kernel
theorem dX8_init_39 : decode cX8_init 39 = .ok (.invokespecial 27, 3) := by decide +kernel
theorem dX8_init_42 : decode cX8_init 42 = .ok (.putfield 28, 3) := by decide +kernel
theorem dX8_init_45 : decode cX8_init 45 = .ok (.aload_n 0, 1) := by decide +kernel
theorem dX8_init_46 : decode cX8_init 46 = .ok (.new 32, 3) := by decide +kernel
theorem dX8_init_49 : decode cX8_init 49 = .ok (.dup, 1) := by decide +kernel
theorem dX8_init_50 : decode cX8_init 50 = .ok (.invokespecial 34, 3) := by decide +kernel
theorem dX8_init_53 : decode cX8_init 53 = .ok (.putfield 35, 3) := by decide +kernel
theorem dX8_init_56 : decode cX8_init 56 = .ok (.aload_n 0, 1) := by decide +kernel
theorem dX8_init_57 : decode cX8_init 57 = .ok (.new 39, 3) := by decide +kernel
theorem dX8_init_60 : decode cX8_init 60 = .ok (.dup, 1) := by decide +kernel
theorem dX8_init_61 : decode cX8_init 61 = .ok (.aload_n 0, 1) := by decide +kernel
theorem dX8_init_62 : decode cX8_init 62 = .ok (.getfield 35, 3) := by decide +kernel
theorem dX8_init_65 : decode cX8_init 65 = .ok (.invokespecial 41, 3) := by decide +kernel
theorem dX8_init_68 : decode cX8_init 68 = .ok (.putfield 44, 3) := by decide +kernel
theorem dX8_init_71 : decode cX8_init 71 = .ok (.aload_n 0, 1) := by decide +kernel
theorem dX8_init_72 : decode cX8_init 72 = .ok (.new 48, 3) := by decide +kernel
theorem dX8_init_75 : decode cX8_init 75 = .ok (.dup, 1) := by decide +kernel
theorem dX8_init_76 : decode cX8_init 76 = .ok (.invokespecial 50, 3) := by decide +kernel
theorem dX8_init_79 : decode cX8_init 79 = .ok (.putfield 51, 3) := by decide +kernel
theorem dX8_init_82 : decode cX8_init 82 = .ok (.aload_n 0, 1) := by decide +kernel
theorem dX8_init_83 : decode cX8_init 83 = .ok (.new 55, 3) := by decide +kernel
theorem dX8_init_86 : decode cX8_init 86 = .ok (.dup, 1) := by decide +kernel
theorem dX8_init_87 : decode cX8_init 87 = .ok (.aload_n 0, 1) := by decide +kernel
theorem dX8_init_88 : decode cX8_init 88 = .ok (.getfield 12, 3) := by decide +kernel
theorem dX8_init_91 : decode cX8_init 91 = .ok (.aload_n 0, 1) := by decide +kernel
theorem dX8_init_92 : decode cX8_init 92 = .ok (.getfield 21, 3) := by decide +kernel
theorem dX8_init_95 : decode cX8_init 95 = .ok (.aload_n 0, 1) := by decide +kernel
theorem dX8_init_96 : decode cX8_init 96 = .ok (.getfield 28, 3) := by decide +kernel
theorem dX8_init_99 : decode cX8_init 99 = .ok (.aload_n 0, 1) := by decide +kernel
theorem dX8_init_100 : decode cX8_init 100 = .ok (.getfield 51, 3) := by decide +kernel
theorem dX8_init_103 : decode cX8_init 103 = .ok (.invokespecial 57, 3) := by decide +kernel
theorem dX8_init_106 : decode cX8_init 106 = .ok (.putfield 60, 3) := by decide +kernel
theorem dX8_init_109 : decode cX8_init 109 = .ok (.return_, 1) := by decide +kernel
set_option maxRecDepth 20000 in
theorem ggX8_add_X1_has : GoodIn wsX8_add wsX1_has := goodIn_r _ [7, 8, 49, 50, 51, 52, 53, 54] (by decide +kernel) (by decide +kernel)
set_option maxRecDepth 20000 in
theorem gX8_add_X1_has : GoodIn wsX8_add (wsV RX8 64 RX1 yX1_has wsX1_has) := goodIn_app (goodIn_of _ (by decide +kernel)) ggX8_add_X1_has
set_option maxRecDepth 20000 in
theorem ggX8_add_X8_isLength : GoodIn wsX8_add wsX8_isLength := goodIn_r _ [12] (by decide +kernel) (by decide +kernel)
set_option maxRecDepth 20000 in
theorem gX8_add_X8_isLength : GoodIn wsX8_add (va_wsS RX8 68 yX8_isLength wsX8_isLength) := goodIn_app (goodIn_of _ (by decide +kernel)) ggX8_add_X8_isLength
set_option maxRecDepth 20000 in
theorem ggX8_add_X8_refuseBad : GoodIn wsX8_add wsX8_refuseBad := goodIn_r _ [16, 17, 40, 41, 42, 43, 44, 45, 46, 47, 48] (by decide +kernel) (by decide +kernel)
set_option maxRecDepth 20000 in
theorem gX8_add_X8_refuseBad : GoodIn wsX8_add (wsV RX8 71 RX8 yX8_refuseBad wsX8_refuseBad) := goodIn_app (goodIn_of _ (by decide +kernel)) ggX8_add_X8_refuseBad
set_option maxRecDepth 20000 in
theorem ggX8_add_X8_refuseFull : GoodIn wsX8_add wsX8_refuseFull := goodIn_r _ [21, 22, 40, 41, 42, 43, 44, 45, 46, 47, 48] (by decide +kernel) (by decide +kernel)
set_option maxRecDepth 20000 in
theorem gX8_add_X8_refuseFull : GoodIn wsX8_add (wsV RX8 79 RX8 yX8_refuseFull wsX8_refuseFull) := goodIn_app (goodIn_of _ (by decide +kernel)) ggX8_add_X8_refuseFull
set_option maxRecDepth 20000 in
theorem ggX8_add_X1_settle : GoodIn wsX8_add wsX1_settle := goodIn_r _ [26, 8, 27, 28, 29, 30, 4, 5, 6, 7, 31, 32, 33, 34, 35, 36, 37, 38, 39, 49, 50, 51, 52, 53, 54] (by decide +kernel) (by decide +kernel)
set_option maxRecDepth 20000 in
theorem gX8_add_X1_settle : GoodIn wsX8_add (wsV RX8 82 RX1 yX1_settle wsX1_settle) := goodIn_app (goodIn_of _ (by decide +kernel)) ggX8_add_X1_settle
theorem dX8_add_0 : decode cX8_add 0 = .ok (.aload_n 0, 1) := by decide +kernel
theorem dX8_add_1 : decode cX8_add 1 = .ok (.getfield 12, 3) := by decide +kernel
theorem dX8_add_4 : decode cX8_add 4 = .ok (.iload_n 1, 1) := by decide +kernel
theorem dX8_add_5 : decode cX8_add 5 = .ok (.invokevirtual 64, 3) := by decide +kernel
theorem dX8_add_8 : decode cX8_add 8 = .ok (.ifCond .eq 10, 3) := by decide +kernel
theorem dX8_add_11 : decode cX8_add 11 = .ok (.iload_n 2, 1) := by decide +kernel
theorem dX8_add_12 : decode cX8_add 12 = .ok (.invokestatic 68, 3) := by decide +kernel
theorem dX8_add_15 : decode cX8_add 15 = .ok (.ifCond .ne 8, 3) := by decide +kernel
theorem dX8_add_18 : decode cX8_add 18 = .ok (.aload_n 0, 1) := by decide +kernel
theorem dX8_add_19 : decode cX8_add 19 = .ok (.invokevirtual 71, 3) := by decide +kernel
theorem dX8_add_22 : decode cX8_add 22 = .ok (.ireturn, 1) := by decide +kernel
theorem dX8_add_23 : decode cX8_add 23 = .ok (.aload_n 0, 1) := by decide +kernel
theorem dX8_add_24 : decode cX8_add 24 = .ok (.getfield 12, 3) := by decide +kernel
theorem dX8_add_27 : decode cX8_add 27 = .ok (.getfield 75, 3) := by decide +kernel
theorem dX8_add_30 : decode cX8_add 30 = .ok (.bipush 60, 2) := by decide +kernel
theorem dX8_add_32 : decode cX8_add 32 = .ok (.if_icmp .lt 8, 3) := by decide +kernel
theorem dX8_add_35 : decode cX8_add 35 = .ok (.aload_n 0, 1) := by decide +kernel
theorem dX8_add_36 : decode cX8_add 36 = .ok (.invokevirtual 79, 3) := by decide +kernel
theorem dX8_add_39 : decode cX8_add 39 = .ok (.ireturn, 1) := by decide +kernel
theorem dX8_add_40 : decode cX8_add 40 = .ok (.aload_n 0, 1) := by decide +kernel
theorem dX8_add_41 : decode cX8_add 41 = .ok (.getfield 12, 3) := by decide +kernel
theorem dX8_add_44 : decode cX8_add 44 = .ok (.iload_n 1, 1) := by decide +kernel
theorem dX8_add_45 : decode cX8_add 45 = .ok (.iload_n 2, 1) := by decide +kernel
theorem dX8_add_46 : decode cX8_add 46 = .ok (.invokevirtual 82, 3) := by decide +kernel
theorem dX8_add_49 : decode cX8_add 49 = .ok (.ireturn, 1) := by decide +kernel
set_option maxRecDepth 20000 in
theorem ggX8_depot_X1_has : GoodIn wsX8_depot wsX1_has := goodIn_r _ [6, 7, 32, 33, 34, 35, 36, 37] (by decide +kernel) (by decide +kernel)
set_option maxRecDepth 20000 in
theorem gX8_depot_X1_has : GoodIn wsX8_depot (wsV RX8 64 RX1 yX1_has wsX1_has) := goodIn_app (goodIn_of _ (by decide +kernel)) ggX8_depot_X1_has
set_option maxRecDepth 20000 in
theorem ggX8_depot_X8_isUpTo : GoodIn wsX8_depot wsX8_isUpTo := goodIn_r _ [11] (by decide +kernel) (by decide +kernel)
set_option maxRecDepth 20000 in
theorem gX8_depot_X8_isUpTo : GoodIn wsX8_depot (va_wsS RX8 86 yX8_isUpTo wsX8_isUpTo) := goodIn_app (goodIn_of _ (by decide +kernel)) ggX8_depot_X8_isUpTo
set_option maxRecDepth 20000 in
theorem ggX8_depot_X8_refuseBad : GoodIn wsX8_depot wsX8_refuseBad := goodIn_r _ [15, 16, 23, 24, 25, 26, 27, 28, 29, 30, 31] (by decide +kernel) (by decide +kernel)
set_option maxRecDepth 20000 in
theorem gX8_depot_X8_refuseBad : GoodIn wsX8_depot (wsV RX8 71 RX8 yX8_refuseBad wsX8_refuseBad) := goodIn_app (goodIn_of _ (by decide +kernel)) ggX8_depot_X8_refuseBad
set_option maxRecDepth 20000 in
theorem ggX8_depot_X1_setDepot : GoodIn wsX8_depot wsX1_setDepot := goodIn_r _ [20, 21, 22, 32, 33, 34, 35, 36, 37] (by decide +kernel) (by decide +kernel)
set_option maxRecDepth 20000 in
theorem gX8_depot_X1_setDepot : GoodIn wsX8_depot (wsV RX8 90 RX1 yX1_setDepot wsX1_setDepot) := goodIn_app (goodIn_of _ (by decide +kernel)) ggX8_depot_X1_setDepot
theorem dX8_depot_0 : decode cX8_depot 0 = .ok (.aload_n 0, 1) := by decide +kernel
theorem dX8_depot_1 : decode cX8_depot 1 = .ok (.getfield 12, 3) := by decide +kernel
theorem dX8_depot_4 : decode cX8_depot 4 = .ok (.iload_n 1, 1) := by decide +kernel
theorem dX8_depot_5 : decode cX8_depot 5 = .ok (.invokevirtual 64, 3) := by decide +kernel
theorem dX8_depot_8 : decode cX8_depot 8 = .ok (.ifCond .eq 11, 3) := by decide +kernel
theorem dX8_depot_11 : decode cX8_depot 11 = .ok (.iload_n 2, 1) := by decide +kernel
theorem dX8_depot_12 : decode cX8_depot 12 = .ok (.iconst 1, 1) := by decide +kernel
theorem dX8_depot_13 : decode cX8_depot 13 = .ok (.invokestatic 86, 3) := by decide +kernel
theorem dX8_depot_16 : decode cX8_depot 16 = .ok (.ifCond .ne 8, 3) := by decide +kernel
theorem dX8_depot_19 : decode cX8_depot 19 = .ok (.aload_n 0, 1) := by decide +kernel
theorem dX8_depot_20 : decode cX8_depot 20 = .ok (.invokevirtual 71, 3) := by decide +kernel
theorem dX8_depot_23 : decode cX8_depot 23 = .ok (.ireturn, 1) := by decide +kernel
theorem dX8_depot_24 : decode cX8_depot 24 = .ok (.aload_n 0, 1) := by decide +kernel
theorem dX8_depot_25 : decode cX8_depot 25 = .ok (.getfield 12, 3) := by decide +kernel
theorem dX8_depot_28 : decode cX8_depot 28 = .ok (.iload_n 1, 1) := by decide +kernel
theorem dX8_depot_29 : decode cX8_depot 29 = .ok (.iload_n 2, 1) := by decide +kernel
theorem dX8_depot_30 : decode cX8_depot 30 = .ok (.iconst 1, 1) := by decide +kernel
theorem dX8_depot_31 : decode cX8_depot 31 = .ok (.if_icmp .ne 7, 3) := by decide +kernel
theorem dX8_depot_34 : decode cX8_depot 34 = .ok (.iconst 1, 1) := by decide +kernel
theorem dX8_depot_35 : decode cX8_depot 35 = .ok (.goto 4, 3) := by decide +kernel
theorem dX8_depot_38 : decode cX8_depot 38 = .ok (.iconst 0, 1) := by decide +kernel
theorem dX8_depot_39 : decode cX8_depot 39 = .ok (.invokevirtual 90, 3) := by decide +kernel
theorem dX8_depot_42 : decode cX8_depot 42 = .ok (.ireturn, 1) := by decide +kernel
set_option maxRecDepth 20000 in
theorem ggX8_road_X1_has : GoodIn wsX8_road wsX1_has := goodIn_r _ [6, 7, 42, 43, 44, 45, 46, 47] (by decide +kernel) (by decide +kernel)
set_option maxRecDepth 20000 in
theorem gX8_road_X1_has : GoodIn wsX8_road (wsV RX8 64 RX1 yX1_has wsX1_has) := goodIn_app (goodIn_of _ (by decide +kernel)) ggX8_road_X1_has
set_option maxRecDepth 20000 in
theorem ggX8_road_X8_isLength : GoodIn wsX8_road wsX8_isLength := goodIn_r _ [11] (by decide +kernel) (by decide +kernel)
set_option maxRecDepth 20000 in
theorem gX8_road_X8_isLength : GoodIn wsX8_road (va_wsS RX8 68 yX8_isLength wsX8_isLength) := goodIn_app (goodIn_of _ (by decide +kernel)) ggX8_road_X8_isLength
set_option maxRecDepth 20000 in
theorem ggX8_road_X8_refuseBad : GoodIn wsX8_road wsX8_refuseBad := goodIn_r _ [15, 16, 33, 34, 35, 36, 37, 38, 39, 40, 41] (by decide +kernel) (by decide +kernel)
set_option maxRecDepth 20000 in
theorem gX8_road_X8_refuseBad : GoodIn wsX8_road (wsV RX8 71 RX8 yX8_refuseBad wsX8_refuseBad) := goodIn_app (goodIn_of _ (by decide +kernel)) ggX8_road_X8_refuseBad
set_option maxRecDepth 20000 in
theorem ggX8_road_X1_setRoad : GoodIn wsX8_road wsX1_setRoad := goodIn_r _ [20, 21, 7, 22, 23, 24, 5, 25, 26, 27, 28, 3, 4, 6, 29, 30, 31, 32, 42, 43, 44, 45, 46, 47] (by decide +kernel) (by decide +kernel)
set_option maxRecDepth 20000 in
theorem gX8_road_X1_setRoad : GoodIn wsX8_road (wsV RX8 94 RX1 yX1_setRoad wsX1_setRoad) := goodIn_app (goodIn_of _ (by decide +kernel)) ggX8_road_X1_setRoad
theorem dX8_road_0 : decode cX8_road 0 = .ok (.aload_n 0, 1) := by decide +kernel
theorem dX8_road_1 : decode cX8_road 1 = .ok (.getfield 12, 3) := by decide +kernel
theorem dX8_road_4 : decode cX8_road 4 = .ok (.iload_n 1, 1) := by decide +kernel
theorem dX8_road_5 : decode cX8_road 5 = .ok (.invokevirtual 64, 3) := by decide +kernel
theorem dX8_road_8 : decode cX8_road 8 = .ok (.ifCond .eq 14, 3) := by decide +kernel
theorem dX8_road_11 : decode cX8_road 11 = .ok (.iload_n 1, 1) := by decide +kernel
theorem dX8_road_12 : decode cX8_road 12 = .ok (.ifCond .eq 10, 3) := by decide +kernel
theorem dX8_road_15 : decode cX8_road 15 = .ok (.iload_n 2, 1) := by decide +kernel
theorem dX8_road_16 : decode cX8_road 16 = .ok (.invokestatic 68, 3) := by decide +kernel
theorem dX8_road_19 : decode cX8_road 19 = .ok (.ifCond .ne 8, 3) := by decide +kernel
theorem dX8_road_22 : decode cX8_road 22 = .ok (.aload_n 0, 1) := by decide +kernel
theorem dX8_road_23 : decode cX8_road 23 = .ok (.invokevirtual 71, 3) := by decide +kernel
theorem dX8_road_26 : decode cX8_road 26 = .ok (.ireturn, 1) := by decide +kernel
theorem dX8_road_27 : decode cX8_road 27 = .ok (.aload_n 0, 1) := by decide +kernel
theorem dX8_road_28 : decode cX8_road 28 = .ok (.getfield 12, 3) := by decide +kernel
theorem dX8_road_31 : decode cX8_road 31 = .ok (.iload_n 1, 1) := by decide +kernel
theorem dX8_road_32 : decode cX8_road 32 = .ok (.iload_n 2, 1) := by decide +kernel
theorem dX8_road_33 : decode cX8_road 33 = .ok (.invokevirtual 94, 3) := by decide +kernel
theorem dX8_road_36 : decode cX8_road 36 = .ok (.ireturn, 1) := by decide +kernel
set_option maxRecDepth 20000 in
theorem ggX8_anew_X1_empty : GoodIn wsX8_anew wsX1_empty := goodIn_r _ [6, 7, 8, 9, 10, 11, 21, 22, 23, 24, 25, 26] (by decide +kernel) (by decide +kernel)
set_option maxRecDepth 20000 in
theorem gX8_anew_X1_empty : GoodIn wsX8_anew (wsV RX8 97 RX1 yX1_empty wsX1_empty) := goodIn_app (goodIn_of _ (by decide +kernel)) ggX8_anew_X1_empty
theorem dX8_anew_0 : decode cX8_anew 0 = .ok (.aload_n 0, 1) := by decide +kernel
theorem dX8_anew_1 : decode cX8_anew 1 = .ok (.getfield 12, 3) := by decide +kernel
theorem dX8_anew_4 : decode cX8_anew 4 = .ok (.invokevirtual 97, 3) := by decide +kernel
theorem dX8_anew_7 : decode cX8_anew 7 = .ok (.ireturn, 1) := by decide +kernel
set_option maxRecDepth 20000 in
theorem ggX8_draw_X8_isUpTo : GoodIn wsX8_draw wsX8_isUpTo := goodIn_r _ [6] (by decide +kernel) (by decide +kernel)
set_option maxRecDepth 20000 in
theorem gX8_draw_X8_isUpTo : GoodIn wsX8_draw (va_wsS RX8 86 yX8_isUpTo wsX8_isUpTo) := goodIn_app (goodIn_of _ (by decide +kernel)) ggX8_draw_X8_isUpTo
set_option maxRecDepth 20000 in
theorem ggX8_draw_X8_refuseBad : GoodIn wsX8_draw wsX8_refuseBad := goodIn_r _ [10, 11, 55, 56, 57, 58, 59, 60, 61, 62, 63] (by decide +kernel) (by decide +kernel)
set_option maxRecDepth 20000 in
theorem gX8_draw_X8_refuseBad : GoodIn wsX8_draw (wsV RX8 71 RX8 yX8_refuseBad wsX8_refuseBad) := goodIn_app (goodIn_of _ (by decide +kernel)) ggX8_draw_X8_refuseBad
set_option maxRecDepth 20000 in
theorem ggX8_draw_X1_sow : GoodIn wsX8_draw wsX1_sow := goodIn_r _ [16, 17, 18, 19, 20, 21, 22, 23, 24, 25, 26, 27, 28, 29, 15, 30, 31, 32, 33, 34, 35, 36, 37, 38, 39, 40, 41, 42, 43, 44, 45, 46, 47, 48, 49, 50, 51, 52, 53, 54, 64, 65, 66, 67, 68, 69] (by decide +kernel) (by decide +kernel)
set_option maxRecDepth 20000 in
theorem gX8_draw_X1_sow : GoodIn wsX8_draw (wsV RX8 101 RX1 yX1_sow wsX1_sow) := goodIn_app (goodIn_of _ (by decide +kernel)) ggX8_draw_X1_sow
theorem dX8_draw_0 : decode cX8_draw 0 = .ok (.iload_n 1, 1) := by decide +kernel
theorem dX8_draw_1 : decode cX8_draw 1 = .ok (.ldc 100, 2) := by decide +kernel
theorem dX8_draw_3 : decode cX8_draw 3 = .ok (.invokestatic 86, 3) := by decide +kernel
theorem dX8_draw_6 : decode cX8_draw 6 = .ok (.ifCond .eq 12, 3) := by decide +kernel
theorem dX8_draw_9 : decode cX8_draw 9 = .ok (.iload_n 2, 1) := by decide +kernel
theorem dX8_draw_10 : decode cX8_draw 10 = .ok (.bipush 59, 2) := by decide +kernel
theorem dX8_draw_12 : decode cX8_draw 12 = .ok (.invokestatic 86, 3) := by decide +kernel
theorem dX8_draw_15 : decode cX8_draw 15 = .ok (.ifCond .ne 8, 3) := by decide +kernel
theorem dX8_draw_18 : decode cX8_draw 18 = .ok (.aload_n 0, 1) := by decide +kernel
theorem dX8_draw_19 : decode cX8_draw 19 = .ok (.invokevirtual 71, 3) := by decide +kernel
theorem dX8_draw_22 : decode cX8_draw 22 = .ok (.ireturn, 1) := by decide +kernel
theorem dX8_draw_23 : decode cX8_draw 23 = .ok (.aload_n 0, 1) := by decide +kernel
theorem dX8_draw_24 : decode cX8_draw 24 = .ok (.getfield 12, 3) := by decide +kernel
theorem dX8_draw_27 : decode cX8_draw 27 = .ok (.iload_n 1, 1) := by decide +kernel
theorem dX8_draw_28 : decode cX8_draw 28 = .ok (.iload_n 2, 1) := by decide +kernel
theorem dX8_draw_29 : decode cX8_draw 29 = .ok (.invokevirtual 101, 3) := by decide +kernel
theorem dX8_draw_32 : decode cX8_draw 32 = .ok (.ireturn, 1) := by decide +kernel
set_option maxRecDepth 20000 in
theorem ggX8_of_X1_has : GoodIn wsX8_of wsX1_has := goodIn_r _ [6, 7, 37, 38, 39, 40, 41, 42] (by decide +kernel) (by decide +kernel)
set_option maxRecDepth 20000 in
theorem gX8_of_X1_has : GoodIn wsX8_of (wsV RX8 64 RX1 yX1_has wsX1_has) := goodIn_app (goodIn_of _ (by decide +kernel)) ggX8_of_X1_has
set_option maxRecDepth 20000 in
theorem ggX8_of_X8_isUpTo : GoodIn wsX8_of wsX8_isUpTo := goodIn_r _ [11] (by decide +kernel) (by decide +kernel)
set_option maxRecDepth 20000 in
theorem gX8_of_X8_isUpTo : GoodIn wsX8_of (va_wsS RX8 86 yX8_isUpTo wsX8_isUpTo) := goodIn_app (goodIn_of _ (by decide +kernel)) ggX8_of_X8_isUpTo
set_option maxRecDepth 20000 in
theorem ggX8_of_X8_refuseBad : GoodIn wsX8_of wsX8_refuseBad := goodIn_r _ [15, 16, 28, 29, 30, 31, 32, 33, 34, 35, 36] (by decide +kernel) (by decide +kernel)
set_option maxRecDepth 20000 in
theorem gX8_of_X8_refuseBad : GoodIn wsX8_of (wsV RX8 71 RX8 yX8_refuseBad wsX8_refuseBad) := goodIn_app (goodIn_of _ (by decide +kernel)) ggX8_of_X8_refuseBad
set_option maxRecDepth 20000 in
theorem ggX8_of_X1_aspect : GoodIn wsX8_of wsX1_aspect := goodIn_r _ [20, 21, 22, 23, 24, 25, 26, 5, 27, 7, 37, 38, 39, 40, 41, 42] (by decide +kernel) (by decide +kernel)
set_option maxRecDepth 20000 in
theorem gX8_of_X1_aspect : GoodIn wsX8_of (wsV RX8 104 RX1 yX1_aspect wsX1_aspect) := goodIn_app (goodIn_of _ (by decide +kernel)) ggX8_of_X1_aspect
theorem dX8_of_0 : decode cX8_of 0 = .ok (.aload_n 0, 1) := by decide +kernel
theorem dX8_of_1 : decode cX8_of 1 = .ok (.getfield 12, 3) := by decide +kernel
theorem dX8_of_4 : decode cX8_of 4 = .ok (.iload_n 1, 1) := by decide +kernel
theorem dX8_of_5 : decode cX8_of 5 = .ok (.invokevirtual 64, 3) := by decide +kernel
theorem dX8_of_8 : decode cX8_of 8 = .ok (.ifCond .eq 11, 3) := by decide +kernel
theorem dX8_of_11 : decode cX8_of 11 = .ok (.iload_n 2, 1) := by decide +kernel
theorem dX8_of_12 : decode cX8_of 12 = .ok (.iconst 3, 1) := by decide +kernel
theorem dX8_of_13 : decode cX8_of 13 = .ok (.invokestatic 86, 3) := by decide +kernel
theorem dX8_of_16 : decode cX8_of 16 = .ok (.ifCond .ne 8, 3) := by decide +kernel
theorem dX8_of_19 : decode cX8_of 19 = .ok (.aload_n 0, 1) := by decide +kernel
theorem dX8_of_20 : decode cX8_of 20 = .ok (.invokevirtual 71, 3) := by decide +kernel
theorem dX8_of_23 : decode cX8_of 23 = .ok (.ireturn, 1) := by decide +kernel
theorem dX8_of_24 : decode cX8_of 24 = .ok (.aload_n 0, 1) := by decide +kernel
theorem dX8_of_25 : decode cX8_of 25 = .ok (.getfield 12, 3) := by decide +kernel
theorem dX8_of_28 : decode cX8_of 28 = .ok (.iload_n 1, 1) := by decide +kernel
theorem dX8_of_29 : decode cX8_of 29 = .ok (.iload_n 2, 1) := by decide +kernel
theorem dX8_of_30 : decode cX8_of 30 = .ok (.invokevirtual 104, 3) := by decide +kernel
theorem dX8_of_33 : decode cX8_of 33 = .ok (.ireturn, 1) := by decide +kernel
set_option maxRecDepth 20000 in
theorem ggX8_far_X1_has : GoodIn wsX8_far wsX1_has := goodIn_r _ [6, 7, 28, 29, 30, 31, 32, 33] (by decide +kernel) (by decide +kernel)
set_option maxRecDepth 20000 in
theorem gX8_far_X1_has : GoodIn wsX8_far (wsV RX8 64 RX1 yX1_has wsX1_has) := goodIn_app (goodIn_of _ (by decide +kernel)) ggX8_far_X1_has
set_option maxRecDepth 20000 in
theorem ggX8_far_X8_refuseBad : GoodIn wsX8_far wsX8_refuseBad := goodIn_r _ [12, 13, 19, 20, 21, 22, 23, 24, 25, 26, 27] (by decide +kernel) (by decide +kernel)
set_option maxRecDepth 20000 in
theorem gX8_far_X8_refuseBad : GoodIn wsX8_far (wsV RX8 71 RX8 yX8_refuseBad wsX8_refuseBad) := goodIn_app (goodIn_of _ (by decide +kernel)) ggX8_far_X8_refuseBad
set_option maxRecDepth 20000 in
theorem ggX8_far_X1_gap : GoodIn wsX8_far wsX1_gap := goodIn_r _ [17, 18, 28, 29, 30, 31, 32, 33] (by decide +kernel) (by decide +kernel)
set_option maxRecDepth 20000 in
theorem gX8_far_X1_gap : GoodIn wsX8_far (wsV RX8 107 RX1 yX1_gap wsX1_gap) := goodIn_app (goodIn_of _ (by decide +kernel)) ggX8_far_X1_gap
theorem dX8_far_0 : decode cX8_far 0 = .ok (.aload_n 0, 1) := by decide +kernel
theorem dX8_far_1 : decode cX8_far 1 = .ok (.getfield 12, 3) := by decide +kernel
theorem dX8_far_4 : decode cX8_far 4 = .ok (.iload_n 1, 1) := by decide +kernel
theorem dX8_far_5 : decode cX8_far 5 = .ok (.invokevirtual 64, 3) := by decide +kernel
theorem dX8_far_8 : decode cX8_far 8 = .ok (.ifCond .eq 14, 3) := by decide +kernel
theorem dX8_far_11 : decode cX8_far 11 = .ok (.aload_n 0, 1) := by decide +kernel
theorem dX8_far_12 : decode cX8_far 12 = .ok (.getfield 12, 3) := by decide +kernel
theorem dX8_far_15 : decode cX8_far 15 = .ok (.iload_n 2, 1) := by decide +kernel
theorem dX8_far_16 : decode cX8_far 16 = .ok (.invokevirtual 64, 3) := by decide +kernel
theorem dX8_far_19 : decode cX8_far 19 = .ok (.ifCond .ne 8, 3) := by decide +kernel
theorem dX8_far_22 : decode cX8_far 22 = .ok (.aload_n 0, 1) := by decide +kernel
theorem dX8_far_23 : decode cX8_far 23 = .ok (.invokevirtual 71, 3) := by decide +kernel
theorem dX8_far_26 : decode cX8_far 26 = .ok (.ireturn, 1) := by decide +kernel
theorem dX8_far_27 : decode cX8_far 27 = .ok (.aload_n 0, 1) := by decide +kernel
theorem dX8_far_28 : decode cX8_far 28 = .ok (.getfield 12, 3) := by decide +kernel
theorem dX8_far_31 : decode cX8_far 31 = .ok (.iload_n 1, 1) := by decide +kernel
theorem dX8_far_32 : decode cX8_far 32 = .ok (.iload_n 2, 1) := by decide +kernel
theorem dX8_far_33 : decode cX8_far 33 = .ok (.invokevirtual 107, 3) := by decide +kernel
theorem dX8_far_36 : decode cX8_far 36 = .ok (.ireturn, 1) := by decide +kernel
set_option maxRecDepth 20000 in
theorem ggX8_way_X1_has : GoodIn wsX8_way wsX1_has := goodIn_r _ [9, 10, 39, 40, 41, 42, 43, 44] (by decide +kernel) (by decide +kernel)
set_option maxRecDepth 20000 in
theorem gX8_way_X1_has : GoodIn wsX8_way (wsV RX8 64 RX1 yX1_has wsX1_has) := goodIn_app (goodIn_of _ (by decide +kernel)) ggX8_way_X1_has
set_option maxRecDepth 20000 in
theorem ggX8_way_X8_refuseBadPlace : GoodIn wsX8_way wsX8_refuseBadPlace := goodIn_r _ [15, 16, 26, 27, 28, 29, 30, 31, 32, 33, 34] (by decide +kernel) (by decide +kernel)
set_option maxRecDepth 20000 in
theorem gX8_way_X8_refuseBadPlace : GoodIn wsX8_way (wsV RX8 110 RX8 yX8_refuseBadPlace wsX8_refuseBadPlace) := goodIn_app (goodIn_of _ (by decide +kernel)) ggX8_way_X8_refuseBadPlace
set_option maxRecDepth 20000 in
theorem ggX8_way_X6_walk : GoodIn wsX8_way wsX6_walk := goodIn_r _ [21, 22, 23, 24, 25, 35, 36, 37, 38, 39, 40, 41, 42, 43, 44] (by decide +kernel) (by decide +kernel)
set_option maxRecDepth 20000 in
theorem gX8_way_X6_walk : GoodIn wsX8_way (wsV RX8 113 RX6 yX6_walk wsX6_walk) := goodIn_app (goodIn_of _ (by decide +kernel)) ggX8_way_X6_walk
theorem dX8_way_0 : decode cX8_way 0 = .ok (.aload_n 0, 1) := by decide +kernel
theorem dX8_way_1 : decode cX8_way 1 = .ok (.getfield 12, 3) := by decide +kernel
theorem dX8_way_4 : decode cX8_way 4 = .ok (.iload_n 1, 1) := by decide +kernel
theorem dX8_way_5 : decode cX8_way 5 = .ok (.invokevirtual 64, 3) := by decide +kernel
theorem dX8_way_8 : decode cX8_way 8 = .ok (.ifCond .eq 19, 3) := by decide +kernel
theorem dX8_way_11 : decode cX8_way 11 = .ok (.aload_n 0, 1) := by decide +kernel
theorem dX8_way_12 : decode cX8_way 12 = .ok (.getfield 12, 3) := by decide +kernel
theorem dX8_way_15 : decode cX8_way 15 = .ok (.iload_n 2, 1) := by decide +kernel
theorem dX8_way_16 : decode cX8_way 16 = .ok (.invokevirtual 64, 3) := by decide +kernel
theorem dX8_way_19 : decode cX8_way 19 = .ok (.ifCond .eq 8, 3) := by decide +kernel
theorem dX8_way_22 : decode cX8_way 22 = .ok (.iload_n 3, 1) := by decide +kernel
theorem dX8_way_23 : decode cX8_way 23 = .ok (.iconst (-1), 1) := by decide +kernel
theorem dX8_way_24 : decode cX8_way 24 = .ok (.if_icmp .ge 8, 3) := by decide +kernel
theorem dX8_way_27 : decode cX8_way 27 = .ok (.aload_n 0, 1) := by decide +kernel
theorem dX8_way_28 : decode cX8_way 28 = .ok (.invokevirtual 110, 3) := by decide +kernel
theorem dX8_way_31 : decode cX8_way 31 = .ok (.ireturn, 1) := by decide +kernel
theorem dX8_way_32 : decode cX8_way 32 = .ok (.aload_n 0, 1) := by decide +kernel
theorem dX8_way_33 : decode cX8_way 33 = .ok (.getfield 21, 3) := by decide +kernel
theorem dX8_way_36 : decode cX8_way 36 = .ok (.iload_n 1, 1) := by decide +kernel
theorem dX8_way_37 : decode cX8_way 37 = .ok (.iload_n 2, 1) := by decide +kernel
theorem dX8_way_38 : decode cX8_way 38 = .ok (.invokevirtual 113, 3) := by decide +kernel
theorem dX8_way_41 : decode cX8_way 41 = .ok (.iload_n 3, 1) := by decide +kernel
theorem dX8_way_42 : decode cX8_way 42 = .ok (.iconst (-1), 1) := by decide +kernel
theorem dX8_way_43 : decode cX8_way 43 = .ok (.if_icmp .ne 11, 3) := by decide +kernel
theorem dX8_way_46 : decode cX8_way 46 = .ok (.aload_n 0, 1) := by decide +kernel
theorem dX8_way_47 : decode cX8_way 47 = .ok (.getfield 21, 3) := by decide +kernel
theorem dX8_way_50 : decode cX8_way 50 = .ok (.getfield 117, 3) := by decide +kernel
theorem dX8_way_53 : decode cX8_way 53 = .ok (.ireturn, 1) := by decide +kernel
theorem dX8_way_54 : decode cX8_way 54 = .ok (.iload_n 3, 1) := by decide +kernel
theorem dX8_way_55 : decode cX8_way 55 = .ok (.aload_n 0, 1) := by decide +kernel
theorem dX8_way_56 : decode cX8_way 56 = .ok (.getfield 21, 3) := by decide +kernel
theorem dX8_way_59 : decode cX8_way 59 = .ok (.getfield 117, 3) := by decide +kernel
theorem dX8_way_62 : decode cX8_way 62 = .ok (.if_icmp .ge 15, 3) := by decide +kernel
theorem dX8_way_65 : decode cX8_way 65 = .ok (.aload_n 0, 1) := by decide +kernel
theorem dX8_way_66 : decode cX8_way 66 = .ok (.getfield 21, 3) := by decide +kernel
theorem dX8_way_69 : decode cX8_way 69 = .ok (.getfield 120, 3) := by decide +kernel
theorem dX8_way_72 : decode cX8_way 72 = .ok (.iload_n 3, 1) := by decide +kernel
theorem dX8_way_73 : decode cX8_way 73 = .ok (.iaload, 1) := by decide +kernel
theorem dX8_way_74 : decode cX8_way 74 = .ok (.goto 5, 3) := by decide +kernel
theorem dX8_way_77 : decode cX8_way 77 = .ok (.bipush (-5), 2) := by decide +kernel
theorem dX8_way_79 : decode cX8_way 79 = .ok (.ireturn, 1) := by decide +kernel
set_option maxRecDepth 20000 in
theorem ggX8_longest_X8_isUpTo : GoodIn wsX8_longest wsX8_isUpTo := goodIn_r _ [5] (by decide +kernel) (by decide +kernel)
set_option maxRecDepth 20000 in
theorem gX8_longest_X8_isUpTo : GoodIn wsX8_longest (va_wsS RX8 86 yX8_isUpTo wsX8_isUpTo) := goodIn_app (goodIn_of _ (by decide +kernel)) ggX8_longest_X8_isUpTo
set_option maxRecDepth 20000 in
theorem ggX8_longest_X8_refuseBad : GoodIn wsX8_longest wsX8_refuseBad := goodIn_r _ [9, 10, 24, 25, 26, 27, 28, 29, 30, 31, 32] (by decide +kernel) (by decide +kernel)
set_option maxRecDepth 20000 in
theorem gX8_longest_X8_refuseBad : GoodIn wsX8_longest (wsV RX8 71 RX8 yX8_refuseBad wsX8_refuseBad) := goodIn_app (goodIn_of _ (by decide +kernel)) ggX8_longest_X8_refuseBad
set_option maxRecDepth 20000 in
theorem ggX8_longest_X6_span : GoodIn wsX8_longest wsX6_span := goodIn_r _ [15, 16, 17, 18, 19, 20, 21, 22, 23, 33, 34, 35, 36, 37, 38, 39, 40, 41, 42] (by decide +kernel) (by decide +kernel)
set_option maxRecDepth 20000 in
theorem gX8_longest_X6_span : GoodIn wsX8_longest (wsV RX8 124 RX6 yX6_span wsX6_span) := goodIn_app (goodIn_of _ (by decide +kernel)) ggX8_longest_X6_span
theorem dX8_longest_0 : decode cX8_longest 0 = .ok (.iload_n 1, 1) := by decide +kernel
theorem dX8_longest_1 : decode cX8_longest 1 = .ok (.iconst 2, 1) := by decide +kernel
theorem dX8_longest_2 : decode cX8_longest 2 = .ok (.invokestatic 86, 3) := by decide +kernel
theorem dX8_longest_5 : decode cX8_longest 5 = .ok (.ifCond .ne 8, 3) := by decide +kernel
theorem dX8_longest_8 : decode cX8_longest 8 = .ok (.aload_n 0, 1) := by decide +kernel
theorem dX8_longest_9 : decode cX8_longest 9 = .ok (.invokevirtual 71, 3) := by decide +kernel
theorem dX8_longest_12 : decode cX8_longest 12 = .ok (.ireturn, 1) := by decide +kernel
theorem dX8_longest_13 : decode cX8_longest 13 = .ok (.aload_n 0, 1) := by decide +kernel
theorem dX8_longest_14 : decode cX8_longest 14 = .ok (.getfield 21, 3) := by decide +kernel
theorem dX8_longest_17 : decode cX8_longest 17 = .ok (.iload_n 1, 1) := by decide +kernel
theorem dX8_longest_18 : decode cX8_longest 18 = .ok (.invokevirtual 124, 3) := by decide +kernel
theorem dX8_longest_21 : decode cX8_longest 21 = .ok (.ireturn, 1) := by decide +kernel
set_option maxRecDepth 20000 in
theorem ggX8_middle_X8_isUpTo : GoodIn wsX8_middle wsX8_isUpTo := goodIn_r _ [5] (by decide +kernel) (by decide +kernel)
set_option maxRecDepth 20000 in
theorem gX8_middle_X8_isUpTo : GoodIn wsX8_middle (va_wsS RX8 86 yX8_isUpTo wsX8_isUpTo) := goodIn_app (goodIn_of _ (by decide +kernel)) ggX8_middle_X8_isUpTo
set_option maxRecDepth 20000 in
theorem ggX8_middle_X8_refuseBad : GoodIn wsX8_middle wsX8_refuseBad := goodIn_r _ [9, 10, 50, 51, 52, 53, 54, 55, 56, 57, 58] (by decide +kernel) (by decide +kernel)
set_option maxRecDepth 20000 in
theorem gX8_middle_X8_refuseBad : GoodIn wsX8_middle (wsV RX8 71 RX8 yX8_refuseBad wsX8_refuseBad) := goodIn_app (goodIn_of _ (by decide +kernel)) ggX8_middle_X8_refuseBad
set_option maxRecDepth 20000 in
theorem ggX8_middle_X6_heart : GoodIn wsX8_middle wsX6_heart := goodIn_r _ [15, 16, 17, 18, 19, 20, 14, 21, 22, 23, 24, 25, 26, 27, 28, 29, 30, 31, 32, 33, 34, 35, 36, 37, 38, 39, 40, 41, 42, 43, 44, 45, 46, 47, 48, 49, 59, 60, 61, 62, 63, 64, 65, 66, 67, 68] (by decide +kernel) (by decide +kernel)
set_option maxRecDepth 20000 in
theorem gX8_middle_X6_heart : GoodIn wsX8_middle (wsV RX8 128 RX6 yX6_heart wsX6_heart) := goodIn_app (goodIn_of _ (by decide +kernel)) ggX8_middle_X6_heart
theorem dX8_middle_0 : decode cX8_middle 0 = .ok (.iload_n 1, 1) := by decide +kernel
theorem dX8_middle_1 : decode cX8_middle 1 = .ok (.iconst 2, 1) := by decide +kernel
theorem dX8_middle_2 : decode cX8_middle 2 = .ok (.invokestatic 86, 3) := by decide +kernel
theorem dX8_middle_5 : decode cX8_middle 5 = .ok (.ifCond .ne 8, 3) := by decide +kernel
theorem dX8_middle_8 : decode cX8_middle 8 = .ok (.aload_n 0, 1) := by decide +kernel
theorem dX8_middle_9 : decode cX8_middle 9 = .ok (.invokevirtual 71, 3) := by decide +kernel
theorem dX8_middle_12 : decode cX8_middle 12 = .ok (.ireturn, 1) := by decide +kernel
theorem dX8_middle_13 : decode cX8_middle 13 = .ok (.aload_n 0, 1) := by decide +kernel
theorem dX8_middle_14 : decode cX8_middle 14 = .ok (.getfield 21, 3) := by decide +kernel
theorem dX8_middle_17 : decode cX8_middle 17 = .ok (.iload_n 1, 1) := by decide +kernel
theorem dX8_middle_18 : decode cX8_middle 18 = .ok (.invokevirtual 128, 3) := by decide +kernel
theorem dX8_middle_21 : decode cX8_middle 21 = .ok (.ireturn, 1) := by decide +kernel
set_option maxRecDepth 20000 in
theorem ggX8_nearest_X1_has : GoodIn wsX8_nearest wsX1_has := goodIn_r _ [7, 8, 46, 47, 48, 49, 50, 51] (by decide +kernel) (by decide +kernel)
set_option maxRecDepth 20000 in
theorem gX8_nearest_X1_has : GoodIn wsX8_nearest (wsV RX8 64 RX1 yX1_has wsX1_has) := goodIn_app (goodIn_of _ (by decide +kernel)) ggX8_nearest_X1_has
set_option maxRecDepth 20000 in
theorem ggX8_nearest_X8_isUpTo : GoodIn wsX8_nearest wsX8_isUpTo := goodIn_r _ [12] (by decide +kernel) (by decide +kernel)
set_option maxRecDepth 20000 in
theorem gX8_nearest_X8_isUpTo : GoodIn wsX8_nearest (va_wsS RX8 86 yX8_isUpTo wsX8_isUpTo) := goodIn_app (goodIn_of _ (by decide +kernel)) ggX8_nearest_X8_isUpTo
set_option maxRecDepth 20000 in
theorem ggX8_nearest_X8_refuseBad : GoodIn wsX8_nearest wsX8_refuseBad := goodIn_r _ [16, 17, 37, 38, 39, 40, 41, 42, 43, 44, 45] (by decide +kernel) (by decide +kernel)
set_option maxRecDepth 20000 in
theorem gX8_nearest_X8_refuseBad : GoodIn wsX8_nearest (wsV RX8 71 RX8 yX8_refuseBad wsX8_refuseBad) := goodIn_app (goodIn_of _ (by decide +kernel)) ggX8_nearest_X8_refuseBad
set_option maxRecDepth 20000 in
theorem ggX8_nearest_X0_closest : GoodIn wsX8_nearest wsX0_closest := goodIn_r _ [22, 23, 24, 25, 26, 27, 28, 29, 6, 30, 31, 52, 53, 46, 47, 48, 49, 50, 51] (by decide +kernel) (by decide +kernel)
set_option maxRecDepth 20000 in
theorem gX8_nearest_X0_closest : GoodIn wsX8_nearest (wsV RX8 131 RX0 yX0_closest wsX0_closest) := goodIn_app (goodIn_of _ (by decide +kernel)) ggX8_nearest_X0_closest
set_option maxRecDepth 20000 in
theorem ggX8_nearest_X8_whichOrFar : GoodIn wsX8_nearest wsX8_whichOrFar := goodIn_r _ [35, 1, 36, 28, 29, 6, 30, 31, 37, 38, 39, 40, 41, 42, 43, 44, 45, 46, 47, 48, 49, 50, 51] (by decide +kernel) (by decide +kernel)
set_option maxRecDepth 20000 in
theorem gX8_nearest_X8_whichOrFar : GoodIn wsX8_nearest (wsV RX8 134 RX8 yX8_whichOrFar wsX8_whichOrFar) := goodIn_app (goodIn_of _ (by decide +kernel)) ggX8_nearest_X8_whichOrFar
theorem dX8_nearest_0 : decode cX8_nearest 0 = .ok (.aload_n 0, 1) := by decide +kernel
theorem dX8_nearest_1 : decode cX8_nearest 1 = .ok (.getfield 12, 3) := by decide +kernel
theorem dX8_nearest_4 : decode cX8_nearest 4 = .ok (.iload_n 1, 1) := by decide +kernel
theorem dX8_nearest_5 : decode cX8_nearest 5 = .ok (.invokevirtual 64, 3) := by decide +kernel
theorem dX8_nearest_8 : decode cX8_nearest 8 = .ok (.ifCond .eq 11, 3) := by decide +kernel
theorem dX8_nearest_11 : decode cX8_nearest 11 = .ok (.iload_n 2, 1) := by decide +kernel
theorem dX8_nearest_12 : decode cX8_nearest 12 = .ok (.iconst 1, 1) := by decide +kernel
theorem dX8_nearest_13 : decode cX8_nearest 13 = .ok (.invokestatic 86, 3) := by decide +kernel
theorem dX8_nearest_16 : decode cX8_nearest 16 = .ok (.ifCond .ne 8, 3) := by decide +kernel
theorem dX8_nearest_19 : decode cX8_nearest 19 = .ok (.aload_n 0, 1) := by decide +kernel
theorem dX8_nearest_20 : decode cX8_nearest 20 = .ok (.invokevirtual 71, 3) := by decide +kernel
theorem dX8_nearest_23 : decode cX8_nearest 23 = .ok (.ireturn, 1) := by decide +kernel
theorem dX8_nearest_24 : decode cX8_nearest 24 = .ok (.aload_n 0, 1) := by decide +kernel
theorem dX8_nearest_25 : decode cX8_nearest 25 = .ok (.iload_n 1, 1) := by decide +kernel
theorem dX8_nearest_26 : decode cX8_nearest 26 = .ok (.aload_n 0, 1) := by decide +kernel
theorem dX8_nearest_27 : decode cX8_nearest 27 = .ok (.getfield 28, 3) := by decide +kernel
theorem dX8_nearest_30 : decode cX8_nearest 30 = .ok (.iload_n 1, 1) := by decide +kernel
theorem dX8_nearest_31 : decode cX8_nearest 31 = .ok (.invokevirtual 131, 3) := by decide +kernel
theorem dX8_nearest_34 : decode cX8_nearest 34 = .ok (.iload_n 2, 1) := by decide +kernel
theorem dX8_nearest_35 : decode cX8_nearest 35 = .ok (.invokevirtual 134, 3) := by decide +kernel
theorem dX8_nearest_38 : decode cX8_nearest 38 = .ok (.ireturn, 1) := by decide +kernel
set_option maxRecDepth 20000 in
theorem ggX8_turn_X1_has : GoodIn wsX8_turn wsX1_has := goodIn_r _ [7, 8, 49, 50, 51, 52, 53, 54] (by decide +kernel) (by decide +kernel)
set_option maxRecDepth 20000 in
theorem gX8_turn_X1_has : GoodIn wsX8_turn (wsV RX8 64 RX1 yX1_has wsX1_has) := goodIn_app (goodIn_of _ (by decide +kernel)) ggX8_turn_X1_has
set_option maxRecDepth 20000 in
theorem ggX8_turn_X8_isUpTo : GoodIn wsX8_turn wsX8_isUpTo := goodIn_r _ [12] (by decide +kernel) (by decide +kernel)
set_option maxRecDepth 20000 in
theorem gX8_turn_X8_isUpTo : GoodIn wsX8_turn (va_wsS RX8 86 yX8_isUpTo wsX8_isUpTo) := goodIn_app (goodIn_of _ (by decide +kernel)) ggX8_turn_X8_isUpTo
set_option maxRecDepth 20000 in
theorem ggX8_turn_X8_refuseBad : GoodIn wsX8_turn wsX8_refuseBad := goodIn_r _ [16, 17, 40, 41, 42, 43, 44, 45, 46, 47, 48] (by decide +kernel) (by decide +kernel)
set_option maxRecDepth 20000 in
theorem gX8_turn_X8_refuseBad : GoodIn wsX8_turn (wsV RX8 71 RX8 yX8_refuseBad wsX8_refuseBad) := goodIn_app (goodIn_of _ (by decide +kernel)) ggX8_turn_X8_refuseBad
set_option maxRecDepth 20000 in
theorem ggX8_turn_X0_ranked : GoodIn wsX8_turn wsX0_ranked := goodIn_r _ [22, 23, 24, 25, 26, 27, 28, 21, 29, 30, 31, 32, 6, 33, 34, 55, 56, 49, 50, 51, 52, 53, 54] (by decide +kernel) (by decide +kernel)
set_option maxRecDepth 20000 in
theorem gX8_turn_X0_ranked : GoodIn wsX8_turn (wsV RX8 138 RX0 yX0_ranked wsX0_ranked) := goodIn_app (goodIn_of _ (by decide +kernel)) ggX8_turn_X0_ranked
set_option maxRecDepth 20000 in
theorem ggX8_turn_X8_whichOrFar : GoodIn wsX8_turn wsX8_whichOrFar := goodIn_r _ [38, 1, 39, 31, 32, 6, 33, 34, 40, 41, 42, 43, 44, 45, 46, 47, 48, 49, 50, 51, 52, 53, 54] (by decide +kernel) (by decide +kernel)
set_option maxRecDepth 20000 in
theorem gX8_turn_X8_whichOrFar : GoodIn wsX8_turn (wsV RX8 134 RX8 yX8_whichOrFar wsX8_whichOrFar) := goodIn_app (goodIn_of _ (by decide +kernel)) ggX8_turn_X8_whichOrFar
theorem dX8_turn_0 : decode cX8_turn 0 = .ok (.aload_n 0, 1) := by decide +kernel
theorem dX8_turn_1 : decode cX8_turn 1 = .ok (.getfield 12, 3) := by decide +kernel
theorem dX8_turn_4 : decode cX8_turn 4 = .ok (.iload_n 1, 1) := by decide +kernel
theorem dX8_turn_5 : decode cX8_turn 5 = .ok (.invokevirtual 64, 3) := by decide +kernel
theorem dX8_turn_8 : decode cX8_turn 8 = .ok (.ifCond .eq 15, 3) := by decide +kernel
theorem dX8_turn_11 : decode cX8_turn 11 = .ok (.iload_n 2, 1) := by decide +kernel
theorem dX8_turn_12 : decode cX8_turn 12 = .ok (.ifCond .lt 11, 3) := by decide +kernel
theorem dX8_turn_15 : decode cX8_turn 15 = .ok (.iload_n 3, 1) := by decide +kernel
theorem dX8_turn_16 : decode cX8_turn 16 = .ok (.iconst 1, 1) := by decide +kernel
theorem dX8_turn_17 : decode cX8_turn 17 = .ok (.invokestatic 86, 3) := by decide +kernel
theorem dX8_turn_20 : decode cX8_turn 20 = .ok (.ifCond .ne 8, 3) := by decide +kernel
theorem dX8_turn_23 : decode cX8_turn 23 = .ok (.aload_n 0, 1) := by decide +kernel
theorem dX8_turn_24 : decode cX8_turn 24 = .ok (.invokevirtual 71, 3) := by decide +kernel
theorem dX8_turn_27 : decode cX8_turn 27 = .ok (.ireturn, 1) := by decide +kernel
theorem dX8_turn_28 : decode cX8_turn 28 = .ok (.aload_n 0, 1) := by decide +kernel
theorem dX8_turn_29 : decode cX8_turn 29 = .ok (.iload_n 1, 1) := by decide +kernel
theorem dX8_turn_30 : decode cX8_turn 30 = .ok (.aload_n 0, 1) := by decide +kernel
theorem dX8_turn_31 : decode cX8_turn 31 = .ok (.getfield 28, 3) := by decide +kernel
theorem dX8_turn_34 : decode cX8_turn 34 = .ok (.iload_n 1, 1) := by decide +kernel
theorem dX8_turn_35 : decode cX8_turn 35 = .ok (.iload_n 2, 1) := by decide +kernel
theorem dX8_turn_36 : decode cX8_turn 36 = .ok (.invokevirtual 138, 3) := by decide +kernel
theorem dX8_turn_39 : decode cX8_turn 39 = .ok (.iload_n 3, 1) := by decide +kernel
theorem dX8_turn_40 : decode cX8_turn 40 = .ok (.invokevirtual 134, 3) := by decide +kernel
theorem dX8_turn_43 : decode cX8_turn 43 = .ok (.ireturn, 1) := by decide +kernel
set_option maxRecDepth 20000 in
theorem ggX8_within_X1_has : GoodIn wsX8_within wsX1_has := goodIn_r _ [7, 8, 40, 41, 42, 43, 44, 45] (by decide +kernel) (by decide +kernel)
set_option maxRecDepth 20000 in
theorem gX8_within_X1_has : GoodIn wsX8_within (wsV RX8 64 RX1 yX1_has wsX1_has) := goodIn_app (goodIn_of _ (by decide +kernel)) ggX8_within_X1_has
set_option maxRecDepth 20000 in
theorem ggX8_within_X8_isUpTo : GoodIn wsX8_within wsX8_isUpTo := goodIn_r _ [12] (by decide +kernel) (by decide +kernel)
set_option maxRecDepth 20000 in
theorem gX8_within_X8_isUpTo : GoodIn wsX8_within (va_wsS RX8 86 yX8_isUpTo wsX8_isUpTo) := goodIn_app (goodIn_of _ (by decide +kernel)) ggX8_within_X8_isUpTo
set_option maxRecDepth 20000 in
theorem ggX8_within_X8_refuseBad : GoodIn wsX8_within wsX8_refuseBad := goodIn_r _ [16, 17, 31, 32, 33, 34, 35, 36, 37, 38, 39] (by decide +kernel) (by decide +kernel)
set_option maxRecDepth 20000 in
theorem gX8_within_X8_refuseBad : GoodIn wsX8_within (wsV RX8 71 RX8 yX8_refuseBad wsX8_refuseBad) := goodIn_app (goodIn_of _ (by decide +kernel)) ggX8_within_X8_refuseBad
set_option maxRecDepth 20000 in
theorem ggX8_within_X0_countWithin : GoodIn wsX8_within wsX0_countWithin := goodIn_r _ [22, 23, 24, 25, 26, 27, 28, 6, 29, 30, 46, 47, 40, 41, 42, 43, 44, 45] (by decide +kernel) (by decide +kernel)
set_option maxRecDepth 20000 in
theorem gX8_within_X0_countWithin : GoodIn wsX8_within (wsV RX8 141 RX0 yX0_countWithin wsX0_countWithin) := goodIn_app (goodIn_of _ (by decide +kernel)) ggX8_within_X0_countWithin
theorem dX8_within_0 : decode cX8_within 0 = .ok (.aload_n 0, 1) := by decide +kernel
theorem dX8_within_1 : decode cX8_within 1 = .ok (.getfield 12, 3) := by decide +kernel
theorem dX8_within_4 : decode cX8_within 4 = .ok (.iload_n 1, 1) := by decide +kernel
theorem dX8_within_5 : decode cX8_within 5 = .ok (.invokevirtual 64, 3) := by decide +kernel
theorem dX8_within_8 : decode cX8_within 8 = .ok (.ifCond .eq 13, 3) := by decide +kernel
theorem dX8_within_11 : decode cX8_within 11 = .ok (.iload_n 2, 1) := by decide +kernel
theorem dX8_within_12 : decode cX8_within 12 = .ok (.sipush 6000, 3) := by decide +kernel
theorem dX8_within_15 : decode cX8_within 15 = .ok (.invokestatic 86, 3) := by decide +kernel
theorem dX8_within_18 : decode cX8_within 18 = .ok (.ifCond .ne 8, 3) := by decide +kernel
theorem dX8_within_21 : decode cX8_within 21 = .ok (.aload_n 0, 1) := by decide +kernel
theorem dX8_within_22 : decode cX8_within 22 = .ok (.invokevirtual 71, 3) := by decide +kernel
theorem dX8_within_25 : decode cX8_within 25 = .ok (.ireturn, 1) := by decide +kernel
theorem dX8_within_26 : decode cX8_within 26 = .ok (.aload_n 0, 1) := by decide +kernel
theorem dX8_within_27 : decode cX8_within 27 = .ok (.getfield 28, 3) := by decide +kernel
theorem dX8_within_30 : decode cX8_within 30 = .ok (.iload_n 1, 1) := by decide +kernel
theorem dX8_within_31 : decode cX8_within 31 = .ok (.iload_n 2, 1) := by decide +kernel
theorem dX8_within_32 : decode cX8_within 32 = .ok (.invokevirtual 141, 3) := by decide +kernel
theorem dX8_within_35 : decode cX8_within 35 = .ok (.ireturn, 1) := by decide +kernel
set_option maxRecDepth 20000 in
theorem ggX8_sum_X1_has : GoodIn wsX8_sum wsX1_has := goodIn_r _ [7, 8, 37, 38, 39, 40, 41, 42] (by decide +kernel) (by decide +kernel)
set_option maxRecDepth 20000 in
theorem gX8_sum_X1_has : GoodIn wsX8_sum (wsV RX8 64 RX1 yX1_has wsX1_has) := goodIn_app (goodIn_of _ (by decide +kernel)) ggX8_sum_X1_has
set_option maxRecDepth 20000 in
theorem ggX8_sum_X8_refuseBad : GoodIn wsX8_sum wsX8_refuseBad := goodIn_r _ [13, 14, 28, 29, 30, 31, 32, 33, 34, 35, 36] (by decide +kernel) (by decide +kernel)
set_option maxRecDepth 20000 in
theorem gX8_sum_X8_refuseBad : GoodIn wsX8_sum (wsV RX8 71 RX8 yX8_refuseBad wsX8_refuseBad) := goodIn_app (goodIn_of _ (by decide +kernel)) ggX8_sum_X8_refuseBad
set_option maxRecDepth 20000 in
theorem ggX8_sum_X0_total : GoodIn wsX8_sum wsX0_total := goodIn_r _ [19, 20, 21, 22, 23, 24, 25, 6, 26, 27, 43, 44, 37, 38, 39, 40, 41, 42] (by decide +kernel) (by decide +kernel)
set_option maxRecDepth 20000 in
theorem gX8_sum_X0_total : GoodIn wsX8_sum (wsV RX8 144 RX0 yX0_total wsX0_total) := goodIn_app (goodIn_of _ (by decide +kernel)) ggX8_sum_X0_total
theorem dX8_sum_0 : decode cX8_sum 0 = .ok (.aload_n 0, 1) := by decide +kernel
theorem dX8_sum_1 : decode cX8_sum 1 = .ok (.getfield 12, 3) := by decide +kernel
theorem dX8_sum_4 : decode cX8_sum 4 = .ok (.iload_n 1, 1) := by decide +kernel
theorem dX8_sum_5 : decode cX8_sum 5 = .ok (.invokevirtual 64, 3) := by decide +kernel
theorem dX8_sum_8 : decode cX8_sum 8 = .ok (.ifCond .ne 8, 3) := by decide +kernel
theorem dX8_sum_11 : decode cX8_sum 11 = .ok (.aload_n 0, 1) := by decide +kernel
theorem dX8_sum_12 : decode cX8_sum 12 = .ok (.invokevirtual 71, 3) := by decide +kernel
theorem dX8_sum_15 : decode cX8_sum 15 = .ok (.ireturn, 1) := by decide +kernel
theorem dX8_sum_16 : decode cX8_sum 16 = .ok (.aload_n 0, 1) := by decide +kernel
theorem dX8_sum_17 : decode cX8_sum 17 = .ok (.getfield 28, 3) := by decide +kernel
theorem dX8_sum_20 : decode cX8_sum 20 = .ok (.iload_n 1, 1) := by decide +kernel
theorem dX8_sum_21 : decode cX8_sum 21 = .ok (.invokevirtual 144, 3) := by decide +kernel
theorem dX8_sum_24 : decode cX8_sum 24 = .ok (.ireturn, 1) := by decide +kernel
set_option maxRecDepth 20000 in
theorem ggX8_left_X8_isUpTo : GoodIn wsX8_left wsX8_isUpTo := goodIn_r _ [5] (by decide +kernel) (by decide +kernel)
set_option maxRecDepth 20000 in
theorem gX8_left_X8_isUpTo : GoodIn wsX8_left (va_wsS RX8 86 yX8_isUpTo wsX8_isUpTo) := goodIn_app (goodIn_of _ (by decide +kernel)) ggX8_left_X8_isUpTo
set_option maxRecDepth 20000 in
theorem ggX8_left_X8_refuseBad : GoodIn wsX8_left wsX8_refuseBad := goodIn_r _ [9, 10, 36, 37, 38, 39, 40, 41, 42, 43, 44] (by decide +kernel) (by decide +kernel)
set_option maxRecDepth 20000 in
theorem gX8_left_X8_refuseBad : GoodIn wsX8_left (wsV RX8 71 RX8 yX8_refuseBad wsX8_refuseBad) := goodIn_app (goodIn_of _ (by decide +kernel)) ggX8_left_X8_refuseBad
set_option maxRecDepth 20000 in
theorem ggX8_left_X0_remotest : GoodIn wsX8_left wsX0_remotest := goodIn_r _ [15, 16, 17, 18, 19, 20, 21, 22, 14, 23, 24, 25, 26, 27, 28, 29, 30, 31, 32, 33, 34, 35, 45, 46, 47, 48, 49, 50, 51, 52] (by decide +kernel) (by decide +kernel)
set_option maxRecDepth 20000 in
theorem gX8_left_X0_remotest : GoodIn wsX8_left (wsV RX8 147 RX0 yX0_remotest wsX0_remotest) := goodIn_app (goodIn_of _ (by decide +kernel)) ggX8_left_X0_remotest
theorem dX8_left_0 : decode cX8_left 0 = .ok (.iload_n 1, 1) := by decide +kernel
theorem dX8_left_1 : decode cX8_left 1 = .ok (.iconst 1, 1) := by decide +kernel
theorem dX8_left_2 : decode cX8_left 2 = .ok (.invokestatic 86, 3) := by decide +kernel
theorem dX8_left_5 : decode cX8_left 5 = .ok (.ifCond .ne 8, 3) := by decide +kernel
theorem dX8_left_8 : decode cX8_left 8 = .ok (.aload_n 0, 1) := by decide +kernel
theorem dX8_left_9 : decode cX8_left 9 = .ok (.invokevirtual 71, 3) := by decide +kernel
theorem dX8_left_12 : decode cX8_left 12 = .ok (.ireturn, 1) := by decide +kernel
theorem dX8_left_13 : decode cX8_left 13 = .ok (.aload_n 0, 1) := by decide +kernel
theorem dX8_left_14 : decode cX8_left 14 = .ok (.getfield 28, 3) := by decide +kernel
theorem dX8_left_17 : decode cX8_left 17 = .ok (.iload_n 1, 1) := by decide +kernel
theorem dX8_left_18 : decode cX8_left 18 = .ok (.invokevirtual 147, 3) := by decide +kernel
theorem dX8_left_21 : decode cX8_left 21 = .ok (.ireturn, 1) := by decide +kernel
set_option maxRecDepth 20000 in
theorem ggX8_more_X8_isUpTo : GoodIn wsX8_more wsX8_isUpTo := goodIn_r _ [5] (by decide +kernel) (by decide +kernel)
set_option maxRecDepth 20000 in
theorem gX8_more_X8_isUpTo : GoodIn wsX8_more (va_wsS RX8 86 yX8_isUpTo wsX8_isUpTo) := goodIn_app (goodIn_of _ (by decide +kernel)) ggX8_more_X8_isUpTo
set_option maxRecDepth 20000 in
theorem ggX8_more_X8_refuseBad : GoodIn wsX8_more wsX8_refuseBad := goodIn_r _ [9, 10, 46, 47, 48, 49, 50, 51, 52, 53, 54] (by decide +kernel) (by decide +kernel)
set_option maxRecDepth 20000 in
theorem gX8_more_X8_refuseBad : GoodIn wsX8_more (wsV RX8 71 RX8 yX8_refuseBad wsX8_refuseBad) := goodIn_app (goodIn_of _ (by decide +kernel)) ggX8_more_X8_refuseBad
set_option maxRecDepth 20000 in
theorem ggX8_more_X0_bestNew : GoodIn wsX8_more wsX0_bestNew := goodIn_r _ [15, 16, 17, 18, 19, 20, 21, 22, 14, 23, 24, 25, 26, 27, 28, 29, 30, 31, 32, 33, 34, 35, 36, 37, 38, 39, 40, 41, 42, 43, 44, 45, 55, 56, 57, 58, 59, 60, 61, 62] (by decide +kernel) (by decide +kernel)
set_option maxRecDepth 20000 in
theorem gX8_more_X0_bestNew : GoodIn wsX8_more (wsV RX8 150 RX0 yX0_bestNew wsX0_bestNew) := goodIn_app (goodIn_of _ (by decide +kernel)) ggX8_more_X0_bestNew
theorem dX8_more_0 : decode cX8_more 0 = .ok (.iload_n 1, 1) := by decide +kernel
theorem dX8_more_1 : decode cX8_more 1 = .ok (.iconst 1, 1) := by decide +kernel
theorem dX8_more_2 : decode cX8_more 2 = .ok (.invokestatic 86, 3) := by decide +kernel
theorem dX8_more_5 : decode cX8_more 5 = .ok (.ifCond .ne 8, 3) := by decide +kernel
theorem dX8_more_8 : decode cX8_more 8 = .ok (.aload_n 0, 1) := by decide +kernel
theorem dX8_more_9 : decode cX8_more 9 = .ok (.invokevirtual 71, 3) := by decide +kernel
theorem dX8_more_12 : decode cX8_more 12 = .ok (.ireturn, 1) := by decide +kernel
theorem dX8_more_13 : decode cX8_more 13 = .ok (.aload_n 0, 1) := by decide +kernel
theorem dX8_more_14 : decode cX8_more 14 = .ok (.getfield 28, 3) := by decide +kernel
theorem dX8_more_17 : decode cX8_more 17 = .ok (.iload_n 1, 1) := by decide +kernel
theorem dX8_more_18 : decode cX8_more 18 = .ok (.invokevirtual 150, 3) := by decide +kernel
theorem dX8_more_21 : decode cX8_more 21 = .ok (.ireturn, 1) := by decide +kernel
set_option maxRecDepth 20000 in
theorem ggX8_serves_X1_has : GoodIn wsX8_serves wsX1_has := goodIn_r _ [7, 8, 41, 42, 43, 44, 45, 46] (by decide +kernel) (by decide +kernel)
set_option maxRecDepth 20000 in
theorem gX8_serves_X1_has : GoodIn wsX8_serves (wsV RX8 64 RX1 yX1_has wsX1_has) := goodIn_app (goodIn_of _ (by decide +kernel)) ggX8_serves_X1_has
set_option maxRecDepth 20000 in
theorem ggX8_serves_X8_refuseBad : GoodIn wsX8_serves wsX8_refuseBad := goodIn_r _ [13, 14, 32, 33, 34, 35, 36, 37, 38, 39, 40] (by decide +kernel) (by decide +kernel)
set_option maxRecDepth 20000 in
theorem gX8_serves_X8_refuseBad : GoodIn wsX8_serves (wsV RX8 71 RX8 yX8_refuseBad wsX8_refuseBad) := goodIn_app (goodIn_of _ (by decide +kernel)) ggX8_serves_X8_refuseBad
set_option maxRecDepth 20000 in
theorem ggX8_serves_X0_countServed : GoodIn wsX8_serves wsX0_countServed := goodIn_r _ [19, 20, 21, 22, 23, 24, 18, 25, 26, 27, 28, 29, 6, 30, 31, 47, 48, 41, 42, 43, 44, 45, 46] (by decide +kernel) (by decide +kernel)
set_option maxRecDepth 20000 in
theorem gX8_serves_X0_countServed : GoodIn wsX8_serves (wsV RX8 153 RX0 yX0_countServed wsX0_countServed) := goodIn_app (goodIn_of _ (by decide +kernel)) ggX8_serves_X0_countServed
theorem dX8_serves_0 : decode cX8_serves 0 = .ok (.aload_n 0, 1) := by decide +kernel
theorem dX8_serves_1 : decode cX8_serves 1 = .ok (.getfield 12, 3) := by decide +kernel
theorem dX8_serves_4 : decode cX8_serves 4 = .ok (.iload_n 1, 1) := by decide +kernel
theorem dX8_serves_5 : decode cX8_serves 5 = .ok (.invokevirtual 64, 3) := by decide +kernel
theorem dX8_serves_8 : decode cX8_serves 8 = .ok (.ifCond .ne 8, 3) := by decide +kernel
theorem dX8_serves_11 : decode cX8_serves 11 = .ok (.aload_n 0, 1) := by decide +kernel
theorem dX8_serves_12 : decode cX8_serves 12 = .ok (.invokevirtual 71, 3) := by decide +kernel
theorem dX8_serves_15 : decode cX8_serves 15 = .ok (.ireturn, 1) := by decide +kernel
theorem dX8_serves_16 : decode cX8_serves 16 = .ok (.aload_n 0, 1) := by decide +kernel
theorem dX8_serves_17 : decode cX8_serves 17 = .ok (.getfield 28, 3) := by decide +kernel
theorem dX8_serves_20 : decode cX8_serves 20 = .ok (.iload_n 1, 1) := by decide +kernel
theorem dX8_serves_21 : decode cX8_serves 21 = .ok (.invokevirtual 153, 3) := by decide +kernel
theorem dX8_serves_24 : decode cX8_serves 24 = .ok (.ireturn, 1) := by decide +kernel
set_option maxRecDepth 20000 in
theorem ggX8_pair_X8_isUpTo : GoodIn wsX8_pair wsX8_isUpTo := goodIn_r _ [5] (by decide +kernel) (by decide +kernel)
set_option maxRecDepth 20000 in
theorem gX8_pair_X8_isUpTo : GoodIn wsX8_pair (va_wsS RX8 86 yX8_isUpTo wsX8_isUpTo) := goodIn_app (goodIn_of _ (by decide +kernel)) ggX8_pair_X8_isUpTo
set_option maxRecDepth 20000 in
theorem ggX8_pair_X8_refuseBad : GoodIn wsX8_pair wsX8_refuseBad := goodIn_r _ [9, 10, 26, 27, 28, 29, 30, 31, 32, 33, 34] (by decide +kernel) (by decide +kernel)
set_option maxRecDepth 20000 in
theorem gX8_pair_X8_refuseBad : GoodIn wsX8_pair (wsV RX8 71 RX8 yX8_refuseBad wsX8_refuseBad) := goodIn_app (goodIn_of _ (by decide +kernel)) ggX8_pair_X8_refuseBad
set_option maxRecDepth 20000 in
theorem ggX8_pair_X0_closestTwo : GoodIn wsX8_pair wsX0_closestTwo := goodIn_r _ [15, 16, 17, 18, 19, 20, 21, 22, 23, 24, 25, 35, 36, 37, 38, 39, 40, 41, 42] (by decide +kernel) (by decide +kernel)
set_option maxRecDepth 20000 in
theorem gX8_pair_X0_closestTwo : GoodIn wsX8_pair (wsV RX8 156 RX0 yX0_closestTwo wsX0_closestTwo) := goodIn_app (goodIn_of _ (by decide +kernel)) ggX8_pair_X0_closestTwo
theorem dX8_pair_0 : decode cX8_pair 0 = .ok (.iload_n 1, 1) := by decide +kernel
theorem dX8_pair_1 : decode cX8_pair 1 = .ok (.iconst 2, 1) := by decide +kernel
theorem dX8_pair_2 : decode cX8_pair 2 = .ok (.invokestatic 86, 3) := by decide +kernel
theorem dX8_pair_5 : decode cX8_pair 5 = .ok (.ifCond .ne 8, 3) := by decide +kernel
theorem dX8_pair_8 : decode cX8_pair 8 = .ok (.aload_n 0, 1) := by decide +kernel
theorem dX8_pair_9 : decode cX8_pair 9 = .ok (.invokevirtual 71, 3) := by decide +kernel
theorem dX8_pair_12 : decode cX8_pair 12 = .ok (.ireturn, 1) := by decide +kernel
theorem dX8_pair_13 : decode cX8_pair 13 = .ok (.aload_n 0, 1) := by decide +kernel
theorem dX8_pair_14 : decode cX8_pair 14 = .ok (.getfield 28, 3) := by decide +kernel
theorem dX8_pair_17 : decode cX8_pair 17 = .ok (.iload_n 1, 1) := by decide +kernel
theorem dX8_pair_18 : decode cX8_pair 18 = .ok (.invokevirtual 156, 3) := by decide +kernel
theorem dX8_pair_21 : decode cX8_pair 21 = .ok (.ireturn, 1) := by decide +kernel
set_option maxRecDepth 20000 in
theorem ggX8_type_X8_isUpTo : GoodIn wsX8_type wsX8_isUpTo := goodIn_r _ [6] (by decide +kernel) (by decide +kernel)
set_option maxRecDepth 20000 in
theorem gX8_type_X8_isUpTo : GoodIn wsX8_type (va_wsS RX8 86 yX8_isUpTo wsX8_isUpTo) := goodIn_app (goodIn_of _ (by decide +kernel)) ggX8_type_X8_isUpTo
set_option maxRecDepth 20000 in
theorem ggX8_type_X8_refuseBad : GoodIn wsX8_type wsX8_refuseBad := goodIn_r _ [10, 11, 24, 25, 26, 27, 28, 29, 30, 31, 32] (by decide +kernel) (by decide +kernel)
set_option maxRecDepth 20000 in
theorem gX8_type_X8_refuseBad : GoodIn wsX8_type (wsV RX8 71 RX8 yX8_refuseBad wsX8_refuseBad) := goodIn_app (goodIn_of _ (by decide +kernel)) ggX8_type_X8_refuseBad
set_option maxRecDepth 20000 in
theorem ggX8_type_X8_refuseFull : GoodIn wsX8_type wsX8_refuseFull := goodIn_r _ [15, 16, 24, 25, 26, 27, 28, 29, 30, 31, 32] (by decide +kernel) (by decide +kernel)
set_option maxRecDepth 20000 in
theorem gX8_type_X8_refuseFull : GoodIn wsX8_type (wsV RX8 79 RX8 yX8_refuseFull wsX8_refuseFull) := goodIn_app (goodIn_of _ (by decide +kernel)) ggX8_type_X8_refuseFull
set_option maxRecDepth 20000 in
theorem ggX8_type_X5_put : GoodIn wsX8_type wsX5_put := goodIn_r _ [21, 22, 23, 33, 34] (by decide +kernel) (by decide +kernel)
set_option maxRecDepth 20000 in
theorem gX8_type_X5_put : GoodIn wsX8_type (wsV RX8 162 RX5 yX5_put wsX5_put) := goodIn_app (goodIn_of _ (by decide +kernel)) ggX8_type_X5_put
theorem dX8_type_0 : decode cX8_type 0 = .ok (.iload_n 1, 1) := by decide +kernel
theorem dX8_type_1 : decode cX8_type 1 = .ok (.bipush 127, 2) := by decide +kernel
theorem dX8_type_3 : decode cX8_type 3 = .ok (.invokestatic 86, 3) := by decide +kernel
theorem dX8_type_6 : decode cX8_type 6 = .ok (.ifCond .ne 8, 3) := by decide +kernel
theorem dX8_type_9 : decode cX8_type 9 = .ok (.aload_n 0, 1) := by decide +kernel
theorem dX8_type_10 : decode cX8_type 10 = .ok (.invokevirtual 71, 3) := by decide +kernel
theorem dX8_type_13 : decode cX8_type 13 = .ok (.ireturn, 1) := by decide +kernel
theorem dX8_type_14 : decode cX8_type 14 = .ok (.aload_n 0, 1) := by decide +kernel
theorem dX8_type_15 : decode cX8_type 15 = .ok (.getfield 35, 3) := by decide +kernel
theorem dX8_type_18 : decode cX8_type 18 = .ok (.getfield 159, 3) := by decide +kernel
theorem dX8_type_21 : decode cX8_type 21 = .ok (.bipush 120, 2) := by decide +kernel
theorem dX8_type_23 : decode cX8_type 23 = .ok (.if_icmp .lt 8, 3) := by decide +kernel
theorem dX8_type_26 : decode cX8_type 26 = .ok (.aload_n 0, 1) := by decide +kernel
theorem dX8_type_27 : decode cX8_type 27 = .ok (.invokevirtual 79, 3) := by decide +kernel
theorem dX8_type_30 : decode cX8_type 30 = .ok (.ireturn, 1) := by decide +kernel
theorem dX8_type_31 : decode cX8_type 31 = .ok (.aload_n 0, 1) := by decide +kernel
theorem dX8_type_32 : decode cX8_type 32 = .ok (.getfield 35, 3) := by decide +kernel
theorem dX8_type_35 : decode cX8_type 35 = .ok (.iload_n 1, 1) := by decide +kernel
theorem dX8_type_36 : decode cX8_type 36 = .ok (.invokevirtual 162, 3) := by decide +kernel
theorem dX8_type_39 : decode cX8_type 39 = .ok (.ireturn, 1) := by decide +kernel
set_option maxRecDepth 20000 in
theorem ggX8_clear_X5_empty : GoodIn wsX8_clear wsX5_empty := goodIn_r _ [6, 7, 17, 18] (by decide +kernel) (by decide +kernel)
set_option maxRecDepth 20000 in
theorem gX8_clear_X5_empty : GoodIn wsX8_clear (wsV RX8 165 RX5 yX5_empty wsX5_empty) := goodIn_app (goodIn_of _ (by decide +kernel)) ggX8_clear_X5_empty
theorem dX8_clear_0 : decode cX8_clear 0 = .ok (.aload_n 0, 1) := by decide +kernel
theorem dX8_clear_1 : decode cX8_clear 1 = .ok (.getfield 35, 3) := by decide +kernel
theorem dX8_clear_4 : decode cX8_clear 4 = .ok (.invokevirtual 165, 3) := by decide +kernel
theorem dX8_clear_7 : decode cX8_clear 7 = .ok (.ireturn, 1) := by decide +kernel
set_option maxRecDepth 20000 in
theorem ggX8_says_X3_read : GoodIn wsX8_says wsX3_read := goodIn_r _ [14, 15, 16, 17, 18, 19, 20, 21, 22, 23, 13, 24, 25, 26, 27, 28, 29, 30, 31, 32, 33, 34, 35, 36, 37, 38, 39, 40, 41, 42, 43, 44, 45, 46, 47, 48, 49, 50, 51, 52, 53, 54, 55, 56, 57, 58, 59, 60, 61, 62, 63, 64, 65, 66, 67, 68, 69, 70, 71, 72, 73, 74, 75, 76, 77, 78, 79, 80, 81, 82, 83, 84, 85, 86, 87, 88, 89, 90, 91, 92, 93, 94, 95, 96, 97, 98, 99, 100, 101, 102, 103, 104, 105, 106, 107, 108, 109, 110, 111, 112, 113, 114, 115, 116, 117, 118, 119, 120, 121, 122, 123, 124, 125, 126, 127, 128, 129, 130, 131, 132, 133, 134, 135, 136, 137, 255, 256, 257, 258, 259, 260, 261, 262, 263, 264] (by decide +kernel) (by decide +kernel)
set_option maxRecDepth 20000 in
theorem gX8_says_X3_read : GoodIn wsX8_says (wsV RX8 166 RX3 yX3_read wsX3_read) := goodIn_app (goodIn_of _ (by decide +kernel)) ggX8_says_X3_read
set_option maxRecDepth 20000 in
theorem ggX8_says_X2_empty : GoodIn wsX8_says wsX2_empty := goodIn_r _ [142, 143, 265, 266] (by decide +kernel) (by decide +kernel)
set_option maxRecDepth 20000 in
theorem gX8_says_X2_empty : GoodIn wsX8_says (wsV RX8 169 RX2 yX2_empty wsX2_empty) := goodIn_app (goodIn_of _ (by decide +kernel)) ggX8_says_X2_empty
set_option maxRecDepth 20000 in
theorem ggX8_says_X2_put : GoodIn wsX8_says wsX2_put := goodIn_r _ [147, 143, 148, 265, 266] (by decide +kernel) (by decide +kernel)
set_option maxRecDepth 20000 in
theorem gX8_says_X2_put : GoodIn wsX8_says (wsV RX8 172 RX2 yX2_put wsX2_put) := goodIn_app (goodIn_of _ (by decide +kernel)) ggX8_says_X2_put
set_option maxRecDepth 20000 in
theorem ggX8_says_X4_tell : GoodIn wsX8_says wsX4_tell := goodIn_r _ [153, 154, 155, 156, 157, 158, 159, 160, 161, 162, 163, 164, 165, 166, 167, 168, 169, 170, 171, 172, 173, 174, 175, 176, 177, 178, 179, 180, 181, 141, 182, 183, 145, 146, 147, 143, 148, 184, 185, 186, 187, 188, 189, 190, 191, 192, 193, 194, 195, 152, 196, 197, 198, 199, 200, 201, 202, 203, 204, 205, 206, 207, 208, 209, 210, 211, 212, 213, 214, 215, 216, 217, 218, 219, 220, 221, 222, 223, 224, 225, 226, 227, 228, 229, 230, 231, 232, 233, 234, 235, 236, 237, 238, 239, 267, 268, 269, 270, 249, 250, 251, 252, 253, 254, 265, 266, 271, 272, 273, 274, 275, 276] (by decide +kernel) (by decide +kernel)
set_option maxRecDepth 20000 in
theorem gX8_says_X4_tell : GoodIn wsX8_says (wsV RX8 184 RX4 yX4_tell wsX4_tell) := goodIn_app (goodIn_of _ (by decide +kernel)) ggX8_says_X4_tell
theorem dX8_says_0 : decode cX8_says 0 = .ok (.aload_n 0, 1) := by decide +kernel
theorem dX8_says_1 : decode cX8_says 1 = .ok (.getfield 44, 3) := by decide +kernel
theorem dX8_says_4 : decode cX8_says 4 = .ok (.aload_n 0, 1) := by decide +kernel
theorem dX8_says_5 : decode cX8_says 5 = .ok (.getfield 12, 3) := by decide +kernel
theorem dX8_says_8 : decode cX8_says 8 = .ok (.getfield 75, 3) := by decide +kernel
theorem dX8_says_11 : decode cX8_says 11 = .ok (.invokevirtual 166, 3) := by decide +kernel
theorem dX8_says_14 : decode cX8_says 14 = .ok (.istore_n 1, 1) := by decide +kernel
theorem dX8_says_15 : decode cX8_says 15 = .ok (.iload_n 1, 1) := by decide +kernel
theorem dX8_says_16 : decode cX8_says 16 = .ok (.iconst (-1), 1) := by decide +kernel
theorem dX8_says_17 : decode cX8_says 17 = .ok (.if_icmp .eq 8, 3) := by decide +kernel
theorem dX8_says_20 : decode cX8_says 20 = .ok (.bipush (-10), 2) := by decide +kernel
theorem dX8_says_22 : decode cX8_says 22 = .ok (.iload_n 1, 1) := by decide +kernel
theorem dX8_says_23 : decode cX8_says 23 = .ok (.isub, 1) := by decide +kernel
theorem dX8_says_24 : decode cX8_says 24 = .ok (.ireturn, 1) := by decide +kernel
theorem dX8_says_25 : decode cX8_says 25 = .ok (.aload_n 0, 1) := by decide +kernel
theorem dX8_says_26 : decode cX8_says 26 = .ok (.getfield 51, 3) := by decide +kernel
theorem dX8_says_29 : decode cX8_says 29 = .ok (.invokevirtual 169, 3) := by decide +kernel
theorem dX8_says_32 : decode cX8_says 32 = .ok (.iconst 0, 1) := by decide +kernel
theorem dX8_says_33 : decode cX8_says 33 = .ok (.istore_n 2, 1) := by decide +kernel
theorem dX8_says_34 : decode cX8_says 34 = .ok (.iload_n 2, 1) := by decide +kernel
theorem dX8_says_35 : decode cX8_says 35 = .ok (.aload_n 0, 1) := by decide +kernel
theorem dX8_says_36 : decode cX8_says 36 = .ok (.getfield 44, 3) := by decide +kernel
theorem dX8_says_39 : decode cX8_says 39 = .ok (.getfield 171, 3) := by decide +kernel
theorem dX8_says_42 : decode cX8_says 42 = .ok (.if_icmp .ge 56, 3) := by decide +kernel
theorem dX8_says_45 : decode cX8_says 45 = .ok (.iload_n 2, 1) := by decide +kernel
theorem dX8_says_46 : decode cX8_says 46 = .ok (.ifCond .le 12, 3) := by decide +kernel
theorem dX8_says_49 : decode cX8_says 49 = .ok (.aload_n 0, 1) := by decide +kernel
theorem dX8_says_50 : decode cX8_says 50 = .ok (.getfield 51, 3) := by decide +kernel
theorem dX8_says_53 : decode cX8_says 53 = .ok (.bipush 32, 2) := by decide +kernel
theorem dX8_says_55 : decode cX8_says 55 = .ok (.invokevirtual 172, 3) := by decide +kernel
theorem dX8_says_58 : decode cX8_says 58 = .ok (.aload_n 0, 1) := by decide +kernel
theorem dX8_says_59 : decode cX8_says 59 = .ok (.getfield 60, 3) := by decide +kernel
theorem dX8_says_62 : decode cX8_says 62 = .ok (.aload_n 0, 1) := by decide +kernel
theorem dX8_says_63 : decode cX8_says 63 = .ok (.getfield 44, 3) := by decide +kernel
theorem dX8_says_66 : decode cX8_says 66 = .ok (.getfield 175, 3) := by decide +kernel
theorem dX8_says_69 : decode cX8_says 69 = .ok (.iload_n 2, 1) := by decide +kernel
theorem dX8_says_70 : decode cX8_says 70 = .ok (.iaload, 1) := by decide +kernel
theorem dX8_says_71 : decode cX8_says 71 = .ok (.aload_n 0, 1) := by decide +kernel
theorem dX8_says_72 : decode cX8_says 72 = .ok (.getfield 44, 3) := by decide +kernel
theorem dX8_says_75 : decode cX8_says 75 = .ok (.getfield 178, 3) := by decide +kernel
theorem dX8_says_78 : decode cX8_says 78 = .ok (.iload_n 2, 1) := by decide +kernel
theorem dX8_says_79 : decode cX8_says 79 = .ok (.iaload, 1) := by decide +kernel
theorem dX8_says_80 : decode cX8_says 80 = .ok (.aload_n 0, 1) := by decide +kernel
theorem dX8_says_81 : decode cX8_says 81 = .ok (.getfield 44, 3) := by decide +kernel
theorem dX8_says_84 : decode cX8_says 84 = .ok (.getfield 181, 3) := by decide +kernel
theorem dX8_says_87 : decode cX8_says 87 = .ok (.iload_n 2, 1) := by decide +kernel
theorem dX8_says_88 : decode cX8_says 88 = .ok (.iaload, 1) := by decide +kernel
theorem dX8_says_89 : decode cX8_says 89 = .ok (.invokevirtual 184, 3) := by decide +kernel
theorem dX8_says_92 : decode cX8_says 92 = .ok (.iinc 2 1, 3) := by decide +kernel
theorem dX8_says_95 : decode cX8_says 95 = .ok (.goto (-61), 3) := by decide +kernel
theorem dX8_says_98 : decode cX8_says 98 = .ok (.aload_n 0, 1) := by decide +kernel
theorem dX8_says_99 : decode cX8_says 99 = .ok (.getfield 44, 3) := by decide +kernel
theorem dX8_says_102 : decode cX8_says 102 = .ok (.getfield 171, 3) := by decide +kernel
theorem dX8_says_105 : decode cX8_says 105 = .ok (.ireturn, 1) := by decide +kernel
set_option maxRecDepth 20000 in
theorem ggX8_answer_X8_refuseBadPlace : GoodIn wsX8_answer wsX8_refuseBadPlace := goodIn_r _ [8, 9, 10, 11, 12, 13, 14, 15, 16, 17, 18] (by decide +kernel) (by decide +kernel)
set_option maxRecDepth 20000 in
theorem gX8_answer_X8_refuseBadPlace : GoodIn wsX8_answer (wsV RX8 110 RX8 yX8_refuseBadPlace wsX8_refuseBadPlace) := goodIn_app (goodIn_of _ (by decide +kernel)) ggX8_answer_X8_refuseBadPlace
theorem dX8_answer_0 : decode cX8_answer 0 = .ok (.iload_n 1, 1) := by decide +kernel
theorem dX8_answer_1 : decode cX8_answer 1 = .ok (.iconst (-1), 1) := by decide +kernel
theorem dX8_answer_2 : decode cX8_answer 2 = .ok (.if_icmp .ge 8, 3) := by decide +kernel
theorem dX8_answer_5 : decode cX8_answer 5 = .ok (.aload_n 0, 1) := by decide +kernel
theorem dX8_answer_6 : decode cX8_answer 6 = .ok (.invokevirtual 110, 3) := by decide +kernel
theorem dX8_answer_9 : decode cX8_answer 9 = .ok (.ireturn, 1) := by decide +kernel
theorem dX8_answer_10 : decode cX8_answer 10 = .ok (.iload_n 1, 1) := by decide +kernel
theorem dX8_answer_11 : decode cX8_answer 11 = .ok (.iconst (-1), 1) := by decide +kernel
theorem dX8_answer_12 : decode cX8_answer 12 = .ok (.if_icmp .ne 11, 3) := by decide +kernel
theorem dX8_answer_15 : decode cX8_answer 15 = .ok (.aload_n 0, 1) := by decide +kernel
theorem dX8_answer_16 : decode cX8_answer 16 = .ok (.getfield 51, 3) := by decide +kernel
theorem dX8_answer_19 : decode cX8_answer 19 = .ok (.getfield 188, 3) := by decide +kernel
theorem dX8_answer_22 : decode cX8_answer 22 = .ok (.ireturn, 1) := by decide +kernel
theorem dX8_answer_23 : decode cX8_answer 23 = .ok (.iload_n 1, 1) := by decide +kernel
theorem dX8_answer_24 : decode cX8_answer 24 = .ok (.aload_n 0, 1) := by decide +kernel
theorem dX8_answer_25 : decode cX8_answer 25 = .ok (.getfield 51, 3) := by decide +kernel
theorem dX8_answer_28 : decode cX8_answer 28 = .ok (.getfield 188, 3) := by decide +kernel
theorem dX8_answer_31 : decode cX8_answer 31 = .ok (.if_icmp .ge 15, 3) := by decide +kernel
theorem dX8_answer_34 : decode cX8_answer 34 = .ok (.aload_n 0, 1) := by decide +kernel
theorem dX8_answer_35 : decode cX8_answer 35 = .ok (.getfield 51, 3) := by decide +kernel
theorem dX8_answer_38 : decode cX8_answer 38 = .ok (.getfield 189, 3) := by decide +kernel
theorem dX8_answer_41 : decode cX8_answer 41 = .ok (.iload_n 1, 1) := by decide +kernel
theorem dX8_answer_42 : decode cX8_answer 42 = .ok (.baload, 1) := by decide +kernel
theorem dX8_answer_43 : decode cX8_answer 43 = .ok (.goto 5, 3) := by decide +kernel
theorem dX8_answer_46 : decode cX8_answer 46 = .ok (.bipush (-5), 2) := by decide +kernel
theorem dX8_answer_48 : decode cX8_answer 48 = .ok (.ireturn, 1) := by decide +kernel
set_option maxRecDepth 20000 in
theorem ggX8_told_X8_isUpTo : GoodIn wsX8_told wsX8_isUpTo := goodIn_r _ [4] (by decide +kernel) (by decide +kernel)
set_option maxRecDepth 20000 in
theorem gX8_told_X8_isUpTo : GoodIn wsX8_told (va_wsS RX8 86 yX8_isUpTo wsX8_isUpTo) := goodIn_app (goodIn_of _ (by decide +kernel)) ggX8_told_X8_isUpTo
set_option maxRecDepth 20000 in
theorem ggX8_told_X8_refuseBad : GoodIn wsX8_told wsX8_refuseBad := goodIn_r _ [8, 9, 22, 23, 24, 25, 26, 27, 28, 29, 30] (by decide +kernel) (by decide +kernel)
set_option maxRecDepth 20000 in
theorem gX8_told_X8_refuseBad : GoodIn wsX8_told (wsV RX8 71 RX8 yX8_refuseBad wsX8_refuseBad) := goodIn_app (goodIn_of _ (by decide +kernel)) ggX8_told_X8_refuseBad
set_option maxRecDepth 20000 in
theorem ggX8_told_X8_tally : GoodIn wsX8_told wsX8_tally := goodIn_r _ [13, 9, 14, 15, 16, 17, 18, 19, 20, 21, 22, 23, 24, 25, 26, 27, 28, 29, 30, 31, 32, 33, 34, 35, 36, 37, 38, 39, 40] (by decide +kernel) (by decide +kernel)
set_option maxRecDepth 20000 in
theorem gX8_told_X8_tally : GoodIn wsX8_told (wsV RX8 193 RX8 yX8_tally wsX8_tally) := goodIn_app (goodIn_of _ (by decide +kernel)) ggX8_told_X8_tally
theorem dX8_told_0 : decode cX8_told 0 = .ok (.iload_n 1, 1) := by decide +kernel
theorem dX8_told_1 : decode cX8_told 1 = .ok (.bipush 6, 2) := by decide +kernel
theorem dX8_told_3 : decode cX8_told 3 = .ok (.invokestatic 86, 3) := by decide +kernel
theorem dX8_told_6 : decode cX8_told 6 = .ok (.ifCond .ne 8, 3) := by decide +kernel
theorem dX8_told_9 : decode cX8_told 9 = .ok (.aload_n 0, 1) := by decide +kernel
theorem dX8_told_10 : decode cX8_told 10 = .ok (.invokevirtual 71, 3) := by decide +kernel
theorem dX8_told_13 : decode cX8_told 13 = .ok (.ireturn, 1) := by decide +kernel
theorem dX8_told_14 : decode cX8_told 14 = .ok (.aload_n 0, 1) := by decide +kernel
theorem dX8_told_15 : decode cX8_told 15 = .ok (.iload_n 1, 1) := by decide +kernel
theorem dX8_told_16 : decode cX8_told 16 = .ok (.invokevirtual 193, 3) := by decide +kernel
theorem dX8_told_19 : decode cX8_told 19 = .ok (.ireturn, 1) := by decide +kernel
set_option maxRecDepth 20000 in
theorem ggX8_digest_X8_tally : GoodIn wsX8_digest wsX8_tally := goodIn_r _ [12, 13, 14, 15, 16, 3, 4, 17, 5, 6, 31, 32, 33, 34, 35, 36, 37, 38, 39, 48, 49, 40, 41, 42, 43, 44, 45, 46, 47] (by decide +kernel) (by decide +kernel)
set_option maxRecDepth 20000 in
theorem gX8_digest_X8_tally : GoodIn wsX8_digest (wsV RX8 193 RX8 yX8_tally wsX8_tally) := goodIn_app (goodIn_of _ (by decide +kernel)) ggX8_digest_X8_tally
set_option maxRecDepth 20000 in
theorem ggX8_digest_X1_aspect : GoodIn wsX8_digest wsX1_aspect := goodIn_r _ [22, 23, 24, 25, 26, 27, 28, 21, 29, 30, 40, 41, 42, 43, 44, 45] (by decide +kernel) (by decide +kernel)
set_option maxRecDepth 20000 in
theorem gX8_digest_X1_aspect : GoodIn wsX8_digest (wsV RX8 104 RX1 yX1_aspect wsX1_aspect) := goodIn_app (goodIn_of _ (by decide +kernel)) ggX8_digest_X1_aspect
theorem dX8_digest_0 : decode cX8_digest 0 = .ok (.ldc2_w 196, 3) := by decide +kernel
theorem dX8_digest_3 : decode cX8_digest 3 = .ok (.lstore_n 1, 1) := by decide +kernel
theorem dX8_digest_4 : decode cX8_digest 4 = .ok (.iconst 0, 1) := by decide +kernel
theorem dX8_digest_5 : decode cX8_digest 5 = .ok (.istore_n 3, 1) := by decide +kernel
theorem dX8_digest_6 : decode cX8_digest 6 = .ok (.iload_n 3, 1) := by decide +kernel
theorem dX8_digest_7 : decode cX8_digest 7 = .ok (.bipush 6, 2) := by decide +kernel
theorem dX8_digest_9 : decode cX8_digest 9 = .ok (.if_icmp .gt 22, 3) := by decide +kernel
theorem dX8_digest_12 : decode cX8_digest 12 = .ok (.ldc2_w 198, 3) := by decide +kernel
theorem dX8_digest_15 : decode cX8_digest 15 = .ok (.lload_n 1, 1) := by decide +kernel
theorem dX8_digest_16 : decode cX8_digest 16 = .ok (.lmul, 1) := by decide +kernel
theorem dX8_digest_17 : decode cX8_digest 17 = .ok (.aload_n 0, 1) := by decide +kernel
theorem dX8_digest_18 : decode cX8_digest 18 = .ok (.iload_n 3, 1) := by decide +kernel
theorem dX8_digest_19 : decode cX8_digest 19 = .ok (.invokevirtual 193, 3) := by decide +kernel
theorem dX8_digest_22 : decode cX8_digest 22 = .ok (.i2l, 1) := by decide +kernel
theorem dX8_digest_23 : decode cX8_digest 23 = .ok (.ladd, 1) := by decide +kernel
theorem dX8_digest_24 : decode cX8_digest 24 = .ok (.lstore_n 1, 1) := by decide +kernel
theorem dX8_digest_25 : decode cX8_digest 25 = .ok (.iinc 3 1, 3) := by decide +kernel
theorem dX8_digest_28 : decode cX8_digest 28 = .ok (.goto (-22), 3) := by decide +kernel
theorem dX8_digest_31 : decode cX8_digest 31 = .ok (.iconst 0, 1) := by decide +kernel
theorem dX8_digest_32 : decode cX8_digest 32 = .ok (.istore_n 3, 1) := by decide +kernel
theorem dX8_digest_33 : decode cX8_digest 33 = .ok (.iload_n 3, 1) := by decide +kernel
theorem dX8_digest_34 : decode cX8_digest 34 = .ok (.aload_n 0, 1) := by decide +kernel
theorem dX8_digest_35 : decode cX8_digest 35 = .ok (.getfield 12, 3) := by decide +kernel
theorem dX8_digest_38 : decode cX8_digest 38 = .ok (.getfield 75, 3) := by decide +kernel
theorem dX8_digest_41 : decode cX8_digest 41 = .ok (.if_icmp .ge 42, 3) := by decide +kernel
theorem dX8_digest_44 : decode cX8_digest 44 = .ok (.iconst 0, 1) := by decide +kernel
theorem dX8_digest_45 : decode cX8_digest 45 = .ok (.istore 4, 2) := by decide +kernel
theorem dX8_digest_47 : decode cX8_digest 47 = .ok (.iload 4, 2) := by decide +kernel
theorem dX8_digest_49 : decode cX8_digest 49 = .ok (.iconst 2, 1) := by decide +kernel
theorem dX8_digest_50 : decode cX8_digest 50 = .ok (.if_icmp .gt 27, 3) := by decide +kernel
theorem dX8_digest_53 : decode cX8_digest 53 = .ok (.ldc2_w 198, 3) := by decide +kernel
theorem dX8_digest_56 : decode cX8_digest 56 = .ok (.lload_n 1, 1) := by decide +kernel
theorem dX8_digest_57 : decode cX8_digest 57 = .ok (.lmul, 1) := by decide +kernel
theorem dX8_digest_58 : decode cX8_digest 58 = .ok (.aload_n 0, 1) := by decide +kernel
theorem dX8_digest_59 : decode cX8_digest 59 = .ok (.getfield 12, 3) := by decide +kernel
theorem dX8_digest_62 : decode cX8_digest 62 = .ok (.iload_n 3, 1) := by decide +kernel
theorem dX8_digest_63 : decode cX8_digest 63 = .ok (.iload 4, 2) := by decide +kernel
theorem dX8_digest_65 : decode cX8_digest 65 = .ok (.invokevirtual 104, 3) := by decide +kernel
theorem dX8_digest_68 : decode cX8_digest 68 = .ok (.i2l, 1) := by decide +kernel
theorem dX8_digest_69 : decode cX8_digest 69 = .ok (.ladd, 1) := by decide +kernel
theorem dX8_digest_70 : decode cX8_digest 70 = .ok (.lstore_n 1, 1) := by decide +kernel
theorem dX8_digest_71 : decode cX8_digest 71 = .ok (.iinc 4 1, 3) := by decide +kernel
theorem dX8_digest_74 : decode cX8_digest 74 = .ok (.goto (-27), 3) := by decide +kernel
theorem dX8_digest_77 : decode cX8_digest 77 = .ok (.iinc 3 1, 3) := by decide +kernel
theorem dX8_digest_80 : decode cX8_digest 80 = .ok (.goto (-47), 3) := by decide +kernel
theorem dX8_digest_83 : decode cX8_digest 83 = .ok (.iconst 0, 1) := by decide +kernel
theorem dX8_digest_84 : decode cX8_digest 84 = .ok (.istore_n 3, 1) := by decide +kernel
theorem dX8_digest_85 : decode cX8_digest 85 = .ok (.iload_n 3, 1) := by decide +kernel
theorem dX8_digest_86 : decode cX8_digest 86 = .ok (.aload_n 0, 1) := by decide +kernel
theorem dX8_digest_87 : decode cX8_digest 87 = .ok (.getfield 51, 3) := by decide +kernel
theorem dX8_digest_90 : decode cX8_digest 90 = .ok (.getfield 188, 3) := by decide +kernel
theorem dX8_digest_93 : decode cX8_digest 93 = .ok (.if_icmp .ge 26, 3) := by decide +kernel
theorem dX8_digest_96 : decode cX8_digest 96 = .ok (.ldc2_w 198, 3) := by decide +kernel
theorem dX8_digest_99 : decode cX8_digest 99 = .ok (.lload_n 1, 1) := by decide +kernel
theorem dX8_digest_100 : decode cX8_digest 100 = .ok (.lmul, 1) := by decide +kernel
theorem dX8_digest_101 : decode cX8_digest 101 = .ok (.aload_n 0, 1) := by decide +kernel
theorem dX8_digest_102 : decode cX8_digest 102 = .ok (.getfield 51, 3) := by decide +kernel
theorem dX8_digest_105 : decode cX8_digest 105 = .ok (.getfield 189, 3) := by decide +kernel
theorem dX8_digest_108 : decode cX8_digest 108 = .ok (.iload_n 3, 1) := by decide +kernel
theorem dX8_digest_109 : decode cX8_digest 109 = .ok (.baload, 1) := by decide +kernel
theorem dX8_digest_110 : decode cX8_digest 110 = .ok (.i2l, 1) := by decide +kernel
theorem dX8_digest_111 : decode cX8_digest 111 = .ok (.ladd, 1) := by decide +kernel
theorem dX8_digest_112 : decode cX8_digest 112 = .ok (.lstore_n 1, 1) := by decide +kernel
theorem dX8_digest_113 : decode cX8_digest 113 = .ok (.iinc 3 1, 3) := by decide +kernel
theorem dX8_digest_116 : decode cX8_digest 116 = .ok (.goto (-31), 3) := by decide +kernel
theorem dX8_digest_119 : decode cX8_digest 119 = .ok (.lload_n 1, 1) := by decide +kernel
theorem dX8_digest_120 : decode cX8_digest 120 = .ok (.lreturn, 1) := by decide +kernel
theorem dX8_tally_0 : decode cX8_tally 0 = .ok (.iload_n 1, 1) := by decide +kernel
theorem dX8_tally_1 : decode cX8_tally 1 = .ok (.tableswitch 85 0 6 #[43, 85, 48, 53, 61, 69, 77], 43) := by decide +kernel
theorem dX8_tally_44 : decode cX8_tally 44 = .ok (.aload_n 0, 1) := by decide +kernel
theorem dX8_tally_45 : decode cX8_tally 45 = .ok (.getfield 200, 3) := by decide +kernel
theorem dX8_tally_48 : decode cX8_tally 48 = .ok (.ireturn, 1) := by decide +kernel
theorem dX8_tally_49 : decode cX8_tally 49 = .ok (.aload_n 0, 1) := by decide +kernel
theorem dX8_tally_50 : decode cX8_tally 50 = .ok (.getfield 203, 3) := by decide +kernel
theorem dX8_tally_53 : decode cX8_tally 53 = .ok (.ireturn, 1) := by decide +kernel
theorem dX8_tally_54 : decode cX8_tally 54 = .ok (.aload_n 0, 1) := by decide +kernel
theorem dX8_tally_55 : decode cX8_tally 55 = .ok (.getfield 35, 3) := by decide +kernel
theorem dX8_tally_58 : decode cX8_tally 58 = .ok (.getfield 159, 3) := by decide +kernel
theorem dX8_tally_61 : decode cX8_tally 61 = .ok (.ireturn, 1) := by decide +kernel
theorem dX8_tally_62 : decode cX8_tally 62 = .ok (.aload_n 0, 1) := by decide +kernel
theorem dX8_tally_63 : decode cX8_tally 63 = .ok (.getfield 12, 3) := by decide +kernel
theorem dX8_tally_66 : decode cX8_tally 66 = .ok (.getfield 75, 3) := by decide +kernel
theorem dX8_tally_69 : decode cX8_tally 69 = .ok (.ireturn, 1) := by decide +kernel
theorem dX8_tally_70 : decode cX8_tally 70 = .ok (.aload_n 0, 1) := by decide +kernel
theorem dX8_tally_71 : decode cX8_tally 71 = .ok (.getfield 12, 3) := by decide +kernel
theorem dX8_tally_74 : decode cX8_tally 74 = .ok (.getfield 206, 3) := by decide +kernel
theorem dX8_tally_77 : decode cX8_tally 77 = .ok (.ireturn, 1) := by decide +kernel
theorem dX8_tally_78 : decode cX8_tally 78 = .ok (.aload_n 0, 1) := by decide +kernel
theorem dX8_tally_79 : decode cX8_tally 79 = .ok (.getfield 51, 3) := by decide +kernel
theorem dX8_tally_82 : decode cX8_tally 82 = .ok (.getfield 188, 3) := by decide +kernel
theorem dX8_tally_85 : decode cX8_tally 85 = .ok (.ireturn, 1) := by decide +kernel
theorem dX8_tally_86 : decode cX8_tally 86 = .ok (.iconst 0, 1) := by decide +kernel
theorem dX8_tally_87 : decode cX8_tally 87 = .ok (.ireturn, 1) := by decide +kernel
set_option maxRecDepth 20000 in
theorem ggX8_whichOrFar_X1_gap : GoodIn wsX8_whichOrFar wsX1_gap := goodIn_r _ [6, 7, 17, 18, 19, 20, 21, 22] (by decide +kernel) (by decide +kernel)
set_option maxRecDepth 20000 in
theorem gX8_whichOrFar_X1_gap : GoodIn wsX8_whichOrFar (wsV RX8 107 RX1 yX1_gap wsX1_gap) := goodIn_app (goodIn_of _ (by decide +kernel)) ggX8_whichOrFar_X1_gap
theorem dX8_whichOrFar_0 : decode cX8_whichOrFar 0 = .ok (.iload_n 2, 1) := by decide +kernel
theorem dX8_whichOrFar_1 : decode cX8_whichOrFar 1 = .ok (.iconst (-1), 1) := by decide +kernel
theorem dX8_whichOrFar_2 : decode cX8_whichOrFar 2 = .ok (.if_icmp .eq 7, 3) := by decide +kernel
theorem dX8_whichOrFar_5 : decode cX8_whichOrFar 5 = .ok (.iload_n 3, 1) := by decide +kernel
theorem dX8_whichOrFar_6 : decode cX8_whichOrFar 6 = .ok (.ifCond .ne 7, 3) := by decide +kernel
theorem dX8_whichOrFar_9 : decode cX8_whichOrFar 9 = .ok (.iload_n 2, 1) := by decide +kernel
theorem dX8_whichOrFar_10 : decode cX8_whichOrFar 10 = .ok (.goto 12, 3) := by decide +kernel
theorem dX8_whichOrFar_13 : decode cX8_whichOrFar 13 = .ok (.aload_n 0, 1) := by decide +kernel
theorem dX8_whichOrFar_14 : decode cX8_whichOrFar 14 = .ok (.getfield 12, 3) := by decide +kernel
theorem dX8_whichOrFar_17 : decode cX8_whichOrFar 17 = .ok (.iload_n 1, 1) := by decide +kernel
theorem dX8_whichOrFar_18 : decode cX8_whichOrFar 18 = .ok (.iload_n 2, 1) := by decide +kernel
theorem dX8_whichOrFar_19 : decode cX8_whichOrFar 19 = .ok (.invokevirtual 107, 3) := by decide +kernel
theorem dX8_whichOrFar_22 : decode cX8_whichOrFar 22 = .ok (.ireturn, 1) := by decide +kernel
theorem dX8_refuseBad_0 : decode cX8_refuseBad 0 = .ok (.aload_n 0, 1) := by decide +kernel
theorem dX8_refuseBad_1 : decode cX8_refuseBad 1 = .ok (.dup, 1) := by decide +kernel
theorem dX8_refuseBad_2 : decode cX8_refuseBad 2 = .ok (.getfield 200, 3) := by decide +kernel
theorem dX8_refuseBad_5 : decode cX8_refuseBad 5 = .ok (.iconst 1, 1) := by decide +kernel
theorem dX8_refuseBad_6 : decode cX8_refuseBad 6 = .ok (.iadd, 1) := by decide +kernel
theorem dX8_refuseBad_7 : decode cX8_refuseBad 7 = .ok (.putfield 200, 3) := by decide +kernel
theorem dX8_refuseBad_10 : decode cX8_refuseBad 10 = .ok (.bipush (-2), 2) := by decide +kernel
theorem dX8_refuseBad_12 : decode cX8_refuseBad 12 = .ok (.ireturn, 1) := by decide +kernel
theorem dX8_refuseBadPlace_0 : decode cX8_refuseBadPlace 0 = .ok (.aload_n 0, 1) := by decide +kernel
theorem dX8_refuseBadPlace_1 : decode cX8_refuseBadPlace 1 = .ok (.dup, 1) := by decide +kernel
theorem dX8_refuseBadPlace_2 : decode cX8_refuseBadPlace 2 = .ok (.getfield 200, 3) := by decide +kernel
theorem dX8_refuseBadPlace_5 : decode cX8_refuseBadPlace 5 = .ok (.iconst 1, 1) := by decide +kernel
theorem dX8_refuseBadPlace_6 : decode cX8_refuseBadPlace 6 = .ok (.iadd, 1) := by decide +kernel
theorem dX8_refuseBadPlace_7 : decode cX8_refuseBadPlace 7 = .ok (.putfield 200, 3) := by decide +kernel
theorem dX8_refuseBadPlace_10 : decode cX8_refuseBadPlace 10 = .ok (.bipush (-10), 2) := by decide +kernel
theorem dX8_refuseBadPlace_12 : decode cX8_refuseBadPlace 12 = .ok (.ireturn, 1) := by decide +kernel
theorem dX8_refuseFull_0 : decode cX8_refuseFull 0 = .ok (.aload_n 0, 1) := by decide +kernel
theorem dX8_refuseFull_1 : decode cX8_refuseFull 1 = .ok (.dup, 1) := by decide +kernel
theorem dX8_refuseFull_2 : decode cX8_refuseFull 2 = .ok (.getfield 203, 3) := by decide +kernel
theorem dX8_refuseFull_5 : decode cX8_refuseFull 5 = .ok (.iconst 1, 1) := by decide +kernel
theorem dX8_refuseFull_6 : decode cX8_refuseFull 6 = .ok (.iadd, 1) := by decide +kernel
theorem dX8_refuseFull_7 : decode cX8_refuseFull 7 = .ok (.putfield 203, 3) := by decide +kernel
theorem dX8_refuseFull_10 : decode cX8_refuseFull 10 = .ok (.bipush (-4), 2) := by decide +kernel
theorem dX8_refuseFull_12 : decode cX8_refuseFull 12 = .ok (.ireturn, 1) := by decide +kernel
theorem dX8_isUpTo_0 : decode cX8_isUpTo 0 = .ok (.iload_n 0, 1) := by decide +kernel
theorem dX8_isUpTo_1 : decode cX8_isUpTo 1 = .ok (.ifCond .lt 12, 3) := by decide +kernel
theorem dX8_isUpTo_4 : decode cX8_isUpTo 4 = .ok (.iload_n 0, 1) := by decide +kernel
theorem dX8_isUpTo_5 : decode cX8_isUpTo 5 = .ok (.iload_n 1, 1) := by decide +kernel
theorem dX8_isUpTo_6 : decode cX8_isUpTo 6 = .ok (.if_icmp .gt 7, 3) := by decide +kernel
theorem dX8_isUpTo_9 : decode cX8_isUpTo 9 = .ok (.iconst 1, 1) := by decide +kernel
theorem dX8_isUpTo_10 : decode cX8_isUpTo 10 = .ok (.goto 4, 3) := by decide +kernel
theorem dX8_isUpTo_13 : decode cX8_isUpTo 13 = .ok (.iconst 0, 1) := by decide +kernel
theorem dX8_isUpTo_14 : decode cX8_isUpTo 14 = .ok (.ireturn, 1) := by decide +kernel
theorem dX8_isLength_0 : decode cX8_isLength 0 = .ok (.iload_n 0, 1) := by decide +kernel
theorem dX8_isLength_1 : decode cX8_isLength 1 = .ok (.iconst 1, 1) := by decide +kernel
theorem dX8_isLength_2 : decode cX8_isLength 2 = .ok (.if_icmp .lt 13, 3) := by decide +kernel
theorem dX8_isLength_5 : decode cX8_isLength 5 = .ok (.iload_n 0, 1) := by decide +kernel
theorem dX8_isLength_6 : decode cX8_isLength 6 = .ok (.bipush 99, 2) := by decide +kernel
theorem dX8_isLength_8 : decode cX8_isLength 8 = .ok (.if_icmp .gt 7, 3) := by decide +kernel
theorem dX8_isLength_11 : decode cX8_isLength 11 = .ok (.iconst 1, 1) := by decide +kernel
theorem dX8_isLength_12 : decode cX8_isLength 12 = .ok (.goto 4, 3) := by decide +kernel
theorem dX8_isLength_15 : decode cX8_isLength 15 = .ok (.iconst 0, 1) := by decide +kernel
theorem dX8_isLength_16 : decode cX8_isLength 16 = .ok (.ireturn, 1) := by decide +kernel
end
section
theorem dX9_init_0 : decode cX9_init 0 = .ok (.aload_n 0, 1) := by decide +kernel
theorem dX9_init_1 : decode cX9_init 1 = .ok (.invokespecial 1, 3) := by decide +kernel
theorem dX9_init_4 : decode cX9_init 4 = .ok (.aload_n 0, 1) := by decide +kernel
theorem dX9_init_5 : decode cX9_init 5 = .ok (.bipush 60, 2) := by decide +kernel
theorem dX9_init_7 : decode cX9_init 7 = .ok (.newarray .int, 2) := by decide +kernel
theorem dX9_init_9 : decode cX9_init 9 = .ok (.putfield 7, 3) := by decide +kernel
theorem dX9_init_12 : decode cX9_init 12 = .ok (.aload_n 0, 1) := by decide +kernel
theorem dX9_init_13 : decode cX9_init 13 = .ok (.bipush 60, 2) := by decide +kernel
theorem dX9_init_15 : decode cX9_init 15 = .ok (.newarray .int, 2) := by decide +kernel
theorem dX9_init_17 : decode cX9_init 17 = .ok (.putfield 13, 3) := by decide +kernel
theorem dX9_init_20 : decode cX9_init 20 = .ok (.aload_n 0, 1) := by decide +kernel
theorem dX9_init_21 : decode cX9_init 21 = .ok (.bipush 60, 2) := by decide +kernel
theorem dX9_init_23 : decode cX9_init 23 = .ok (.newarray .boolean, 2) := by decide +kernel
theorem dX9_init_25 : decode cX9_init 25 = .ok (.putfield 16, 3) := by decide +kernel
theorem dX9_init_28 : decode cX9_init 28 = .ok (.aload_n 0, 1) := by decide +kernel
theorem dX9_init_29 : decode cX9_init 29 = .ok (.bipush 120, 2) := by decide +kernel
theorem dX9_init_31 : decode cX9_init 31 = .ok (.newarray .int, 2) := by decide +kernel
theorem dX9_init_33 : decode cX9_init 33 = .ok (.putfield 20, 3) := by decide +kernel
theorem dX9_init_36 : decode cX9_init 36 = .ok (.aload_n 0, 1) := by decide +kernel
theorem dX9_init_37 : decode cX9_init 37 = .ok (.sipush 400, 3) := by decide +kernel
theorem dX9_init_40 : decode cX9_init 40 = .ok (.newarray .int, 2) := by decide +kernel
theorem dX9_init_42 : decode cX9_init 42 = .ok (.putfield 23, 3) := by decide +kernel
theorem dX9_init_45 : decode cX9_init 45 = .ok (.aload_n 0, 1) := by decide +kernel
theorem dX9_init_46 : decode cX9_init 46 = .ok (.bipush 60, 2) := by decide +kernel
theorem dX9_init_48 : decode cX9_init 48 = .ok (.newarray .int, 2) := by decide +kernel
theorem dX9_init_50 : decode cX9_init 50 = .ok (.putfield 26, 3) := by decide +kernel
theorem dX9_init_53 : decode cX9_init 53 = .ok (.aload_n 0, 1) := by decide +kernel
theorem dX9_init_54 : decode cX9_init 54 = .ok (.bipush 60, 2) := by decide +kernel
theorem dX9_init_56 : decode cX9_init 56 = .ok (.newarray .int, 2) := by decide +kernel
theorem dX9_init_58 : decode cX9_init 58 = .ok (.putfield 29, 3) := by decide +kernel
theorem dX9_init_61 : decode cX9_init 61 = .ok (.aload_n 0, 1) := by decide +kernel
theorem dX9_init_62 : decode cX9_init 62 = .ok (.iconst 2, 1) := by decide +kernel
theorem dX9_init_63 : decode cX9_init 63 = .ok (.newarray .int, 2) := by decide +kernel
theorem dX9_init_65 : decode cX9_init 65 = .ok (.putfield 32, 3) := by decide +kernel
theorem dX9_init_68 : decode cX9_init 68 = .ok (.aload_n 0, 1) := by decide +kernel
theorem dX9_init_69 : decode cX9_init 69 = .ok (.iconst 1, 1) := by decide +kernel
theorem dX9_init_70 : decode cX9_init 70 = .ok (.putfield 35, 3) := by decide +kernel
theorem dX9_init_73 : decode cX9_init 73 = .ok (.aload_n 0, 1) := by decide +kernel
theorem dX9_init_74 : decode cX9_init 74 = .ok (.getfield 7, 3) := by decide +kernel
theorem dX9_init_77 : decode cX9_init 77 = .ok (.iconst 0, 1) := by decide +kernel
theorem dX9_init_78 : decode cX9_init 78 = .ok (.iconst (-1), 1) := by decide +kernel
theorem dX9_init_79 : decode cX9_init 79 = .ok (.iastore, 1) := by decide +kernel
theorem dX9_init_80 : decode cX9_init 80 = .ok (.return_, 1) := by decide +kernel
theorem dX9_in_0 : decode cX9_in 0 = .ok (.lload_n 0, 1) := by decide +kernel
theorem dX9_in_1 : decode cX9_in 1 = .ok (.lload_n 2, 1) := by decide +kernel
theorem dX9_in_2 : decode cX9_in 2 = .ok (.lcmp, 1) := by decide +kernel
theorem dX9_in_3 : decode cX9_in 3 = .ok (.ifCond .lt 14, 3) := by decide +kernel
theorem dX9_in_6 : decode cX9_in 6 = .ok (.lload_n 0, 1) := by decide +kernel
theorem dX9_in_7 : decode cX9_in 7 = .ok (.lload 4, 2) := by decide +kernel
theorem dX9_in_9 : decode cX9_in 9 = .ok (.lcmp, 1) := by decide +kernel
theorem dX9_in_10 : decode cX9_in 10 = .ok (.ifCond .gt 7, 3) := by decide +kernel
theorem dX9_in_13 : decode cX9_in 13 = .ok (.iconst 1, 1) := by decide +kernel
theorem dX9_in_14 : decode cX9_in 14 = .ok (.goto 4, 3) := by decide +kernel
theorem dX9_in_17 : decode cX9_in 17 = .ok (.iconst 0, 1) := by decide +kernel
theorem dX9_in_18 : decode cX9_in 18 = .ok (.ireturn, 1) := by decide +kernel
set_option maxRecDepth 20000 in
theorem ggX9_isVillage_X9_in : GoodIn wsX9_isVillage wsX9_in := goodIn_r _ [5] (by decide +kernel) (by decide +kernel)
set_option maxRecDepth 20000 in
theorem gX9_isVillage_X9_in : GoodIn wsX9_isVillage (va_wsS RX9 39 yX9_in wsX9_in) := goodIn_app (goodIn_of _ (by decide +kernel)) ggX9_isVillage_X9_in
theorem dX9_isVillage_0 : decode cX9_isVillage 0 = .ok (.iload_n 1, 1) := by decide +kernel
theorem dX9_isVillage_1 : decode cX9_isVillage 1 = .ok (.i2l, 1) := by decide +kernel
theorem dX9_isVillage_2 : decode cX9_isVillage 2 = .ok (.lconst 0, 1) := by decide +kernel
theorem dX9_isVillage_3 : decode cX9_isVillage 3 = .ok (.aload_n 0, 1) := by decide +kernel
theorem dX9_isVillage_4 : decode cX9_isVillage 4 = .ok (.getfield 35, 3) := by decide +kernel
theorem dX9_isVillage_7 : decode cX9_isVillage 7 = .ok (.iconst 1, 1) := by decide +kernel
theorem dX9_isVillage_8 : decode cX9_isVillage 8 = .ok (.isub, 1) := by decide +kernel
theorem dX9_isVillage_9 : decode cX9_isVillage 9 = .ok (.i2l, 1) := by decide +kernel
theorem dX9_isVillage_10 : decode cX9_isVillage 10 = .ok (.invokestatic 39, 3) := by decide +kernel
theorem dX9_isVillage_13 : decode cX9_isVillage 13 = .ok (.ireturn, 1) := by decide +kernel
theorem dX9_refuse_0 : decode cX9_refuse 0 = .ok (.aload_n 0, 1) := by decide +kernel
theorem dX9_refuse_1 : decode cX9_refuse 1 = .ok (.dup, 1) := by decide +kernel
theorem dX9_refuse_2 : decode cX9_refuse 2 = .ok (.getfield 43, 3) := by decide +kernel
theorem dX9_refuse_5 : decode cX9_refuse 5 = .ok (.iconst 1, 1) := by decide +kernel
theorem dX9_refuse_6 : decode cX9_refuse 6 = .ok (.iadd, 1) := by decide +kernel
theorem dX9_refuse_7 : decode cX9_refuse 7 = .ok (.putfield 43, 3) := by decide +kernel
theorem dX9_refuse_10 : decode cX9_refuse 10 = .ok (.bipush (-2), 2) := by decide +kernel
theorem dX9_refuse_12 : decode cX9_refuse 12 = .ok (.ireturn, 1) := by decide +kernel
theorem dX9_refuseFull_0 : decode cX9_refuseFull 0 = .ok (.aload_n 0, 1) := by decide +kernel
theorem dX9_refuseFull_1 : decode cX9_refuseFull 1 = .ok (.dup, 1) := by decide +kernel
theorem dX9_refuseFull_2 : decode cX9_refuseFull 2 = .ok (.getfield 46, 3) := by decide +kernel
theorem dX9_refuseFull_5 : decode cX9_refuseFull 5 = .ok (.iconst 1, 1) := by decide +kernel
theorem dX9_refuseFull_6 : decode cX9_refuseFull 6 = .ok (.iadd, 1) := by decide +kernel
theorem dX9_refuseFull_7 : decode cX9_refuseFull 7 = .ok (.putfield 46, 3) := by decide +kernel
theorem dX9_refuseFull_10 : decode cX9_refuseFull 10 = .ok (.bipush (-4), 2) := by decide +kernel
theorem dX9_refuseFull_12 : decode cX9_refuseFull 12 = .ok (.ireturn, 1) := by decide +kernel
theorem dX9_come_0 : decode cX9_come 0 = .ok (.aload_n 0, 1) := by decide +kernel
theorem dX9_come_1 : decode cX9_come 1 = .ok (.getfield 7, 3) := by decide +kernel
theorem dX9_come_4 : decode cX9_come 4 = .ok (.aload_n 0, 1) := by decide +kernel
theorem dX9_come_5 : decode cX9_come 5 = .ok (.getfield 35, 3) := by decide +kernel
theorem dX9_come_8 : decode cX9_come 8 = .ok (.iload_n 1, 1) := by decide +kernel
theorem dX9_come_9 : decode cX9_come 9 = .ok (.iastore, 1) := by decide +kernel
theorem dX9_come_10 : decode cX9_come 10 = .ok (.aload_n 0, 1) := by decide +kernel
theorem dX9_come_11 : decode cX9_come 11 = .ok (.getfield 13, 3) := by decide +kernel
theorem dX9_come_14 : decode cX9_come 14 = .ok (.aload_n 0, 1) := by decide +kernel
theorem dX9_come_15 : decode cX9_come 15 = .ok (.getfield 35, 3) := by decide +kernel
theorem dX9_come_18 : decode cX9_come 18 = .ok (.iload_n 2, 1) := by decide +kernel
theorem dX9_come_19 : decode cX9_come 19 = .ok (.iastore, 1) := by decide +kernel
theorem dX9_come_20 : decode cX9_come 20 = .ok (.aload_n 0, 1) := by decide +kernel
theorem dX9_come_21 : decode cX9_come 21 = .ok (.getfield 16, 3) := by decide +kernel
theorem dX9_come_24 : decode cX9_come 24 = .ok (.aload_n 0, 1) := by decide +kernel
theorem dX9_come_25 : decode cX9_come 25 = .ok (.getfield 35, 3) := by decide +kernel
theorem dX9_come_28 : decode cX9_come 28 = .ok (.iconst 0, 1) := by decide +kernel
theorem dX9_come_29 : decode cX9_come 29 = .ok (.bastore, 1) := by decide +kernel
theorem dX9_come_30 : decode cX9_come 30 = .ok (.aload_n 0, 1) := by decide +kernel
theorem dX9_come_31 : decode cX9_come 31 = .ok (.dup, 1) := by decide +kernel
theorem dX9_come_32 : decode cX9_come 32 = .ok (.getfield 35, 3) := by decide +kernel
theorem dX9_come_35 : decode cX9_come 35 = .ok (.iconst 1, 1) := by decide +kernel
theorem dX9_come_36 : decode cX9_come 36 = .ok (.iadd, 1) := by decide +kernel
theorem dX9_come_37 : decode cX9_come 37 = .ok (.putfield 35, 3) := by decide +kernel
theorem dX9_come_40 : decode cX9_come 40 = .ok (.aload_n 0, 1) := by decide +kernel
theorem dX9_come_41 : decode cX9_come 41 = .ok (.getfield 35, 3) := by decide +kernel
theorem dX9_come_44 : decode cX9_come 44 = .ok (.iconst 1, 1) := by decide +kernel
theorem dX9_come_45 : decode cX9_come 45 = .ok (.isub, 1) := by decide +kernel
theorem dX9_come_46 : decode cX9_come 46 = .ok (.ireturn, 1) := by decide +kernel
set_option maxRecDepth 20000 in
theorem ggX9_add_X9_isVillage : GoodIn wsX9_add wsX9_isVillage := goodIn_r _ [7, 2, 8, 9, 6, 10, 28, 29, 30, 31, 32, 33, 34, 35, 36, 37, 38, 39, 40, 41, 42, 43, 44, 45, 46, 47, 48, 49] (by decide +kernel) (by decide +kernel)
set_option maxRecDepth 20000 in
theorem gX9_add_X9_isVillage : GoodIn wsX9_add (wsV RX9 49 RX9 yX9_isVillage wsX9_isVillage) := goodIn_app (goodIn_of _ (by decide +kernel)) ggX9_add_X9_isVillage
set_option maxRecDepth 20000 in
theorem ggX9_add_X9_in : GoodIn wsX9_add wsX9_in := goodIn_r _ [10] (by decide +kernel) (by decide +kernel)
set_option maxRecDepth 20000 in
theorem gX9_add_X9_in : GoodIn wsX9_add (va_wsS RX9 39 yX9_in wsX9_in) := goodIn_app (goodIn_of _ (by decide +kernel)) ggX9_add_X9_in
set_option maxRecDepth 20000 in
theorem ggX9_add_X9_refuse : GoodIn wsX9_add wsX9_refuse := goodIn_r _ [14, 15, 28, 29, 30, 31, 32, 33, 34, 35, 36, 37, 38, 39, 40, 41, 42, 43, 44, 45, 46, 47, 48, 49] (by decide +kernel) (by decide +kernel)
set_option maxRecDepth 20000 in
theorem gX9_add_X9_refuse : GoodIn wsX9_add (wsV RX9 55 RX9 yX9_refuse wsX9_refuse) := goodIn_app (goodIn_of _ (by decide +kernel)) ggX9_add_X9_refuse
set_option maxRecDepth 20000 in
theorem ggX9_add_X9_refuseFull : GoodIn wsX9_add wsX9_refuseFull := goodIn_r _ [19, 20, 28, 29, 30, 31, 32, 33, 34, 35, 36, 37, 38, 39, 40, 41, 42, 43, 44, 45, 46, 47, 48, 49] (by decide +kernel) (by decide +kernel)
set_option maxRecDepth 20000 in
theorem gX9_add_X9_refuseFull : GoodIn wsX9_add (wsV RX9 59 RX9 yX9_refuseFull wsX9_refuseFull) := goodIn_app (goodIn_of _ (by decide +kernel)) ggX9_add_X9_refuseFull
set_option maxRecDepth 20000 in
theorem ggX9_add_X9_come : GoodIn wsX9_add wsX9_come := goodIn_r _ [24, 25, 2, 26, 27, 28, 29, 30, 31, 32, 33, 34, 35, 36, 37, 38, 39, 40, 41, 42, 43, 44, 45, 46, 47, 48, 49] (by decide +kernel) (by decide +kernel)
set_option maxRecDepth 20000 in
theorem gX9_add_X9_come : GoodIn wsX9_add (wsV RX9 62 RX9 yX9_come wsX9_come) := goodIn_app (goodIn_of _ (by decide +kernel)) ggX9_add_X9_come
theorem dX9_add_0 : decode cX9_add 0 = .ok (.aload_n 0, 1) := by decide +kernel
theorem dX9_add_1 : decode cX9_add 1 = .ok (.iload_n 1, 1) := by decide +kernel
theorem dX9_add_2 : decode cX9_add 2 = .ok (.invokevirtual 49, 3) := by decide +kernel
theorem dX9_add_5 : decode cX9_add 5 = .ok (.ifCond .eq 15, 3) := by decide +kernel
theorem dX9_add_8 : decode cX9_add 8 = .ok (.iload_n 2, 1) := by decide +kernel
theorem dX9_add_9 : decode cX9_add 9 = .ok (.i2l, 1) := by decide +kernel
theorem dX9_add_10 : decode cX9_add 10 = .ok (.lconst 1, 1) := by decide +kernel
theorem dX9_add_11 : decode cX9_add 11 = .ok (.ldc2_w 53, 3) := by decide +kernel
theorem dX9_add_14 : decode cX9_add 14 = .ok (.invokestatic 39, 3) := by decide +kernel
theorem dX9_add_17 : decode cX9_add 17 = .ok (.ifCond .ne 8, 3) := by decide +kernel
theorem dX9_add_20 : decode cX9_add 20 = .ok (.aload_n 0, 1) := by decide +kernel
theorem dX9_add_21 : decode cX9_add 21 = .ok (.invokevirtual 55, 3) := by decide +kernel
theorem dX9_add_24 : decode cX9_add 24 = .ok (.ireturn, 1) := by decide +kernel
theorem dX9_add_25 : decode cX9_add 25 = .ok (.aload_n 0, 1) := by decide +kernel
theorem dX9_add_26 : decode cX9_add 26 = .ok (.getfield 35, 3) := by decide +kernel
theorem dX9_add_29 : decode cX9_add 29 = .ok (.bipush 60, 2) := by decide +kernel
theorem dX9_add_31 : decode cX9_add 31 = .ok (.if_icmp .ne 10, 3) := by decide +kernel
theorem dX9_add_34 : decode cX9_add 34 = .ok (.aload_n 0, 1) := by decide +kernel
theorem dX9_add_35 : decode cX9_add 35 = .ok (.invokevirtual 59, 3) := by decide +kernel
theorem dX9_add_38 : decode cX9_add 38 = .ok (.goto 9, 3) := by decide +kernel
theorem dX9_add_41 : decode cX9_add 41 = .ok (.aload_n 0, 1) := by decide +kernel
theorem dX9_add_42 : decode cX9_add 42 = .ok (.iload_n 1, 1) := by decide +kernel
theorem dX9_add_43 : decode cX9_add 43 = .ok (.iload_n 2, 1) := by decide +kernel
theorem dX9_add_44 : decode cX9_add 44 = .ok (.invokevirtual 62, 3) := by decide +kernel
theorem dX9_add_47 : decode cX9_add 47 = .ok (.ireturn, 1) := by decide +kernel
theorem dX9_becomes_0 : decode cX9_becomes 0 = .ok (.aload_n 0, 1) := by decide +kernel
theorem dX9_becomes_1 : decode cX9_becomes 1 = .ok (.getfield 16, 3) := by decide +kernel
theorem dX9_becomes_4 : decode cX9_becomes 4 = .ok (.iload_n 1, 1) := by decide +kernel
theorem dX9_becomes_5 : decode cX9_becomes 5 = .ok (.baload, 1) := by decide +kernel
theorem dX9_becomes_6 : decode cX9_becomes 6 = .ok (.istore_n 3, 1) := by decide +kernel
theorem dX9_becomes_7 : decode cX9_becomes 7 = .ok (.aload_n 0, 1) := by decide +kernel
theorem dX9_becomes_8 : decode cX9_becomes 8 = .ok (.getfield 16, 3) := by decide +kernel
theorem dX9_becomes_11 : decode cX9_becomes 11 = .ok (.iload_n 1, 1) := by decide +kernel
theorem dX9_becomes_12 : decode cX9_becomes 12 = .ok (.iload_n 2, 1) := by decide +kernel
theorem dX9_becomes_13 : decode cX9_becomes 13 = .ok (.bastore, 1) := by decide +kernel
theorem dX9_becomes_14 : decode cX9_becomes 14 = .ok (.iload_n 3, 1) := by decide +kernel
theorem dX9_becomes_15 : decode cX9_becomes 15 = .ok (.iload_n 2, 1) := by decide +kernel
theorem dX9_becomes_16 : decode cX9_becomes 16 = .ok (.if_icmp .ne 7, 3) := by decide +kernel
theorem dX9_becomes_19 : decode cX9_becomes 19 = .ok (.iconst 0, 1) := by decide +kernel
theorem dX9_becomes_20 : decode cX9_becomes 20 = .ok (.goto 4, 3) := by decide +kernel
theorem dX9_becomes_23 : decode cX9_becomes 23 = .ok (.iconst 1, 1) := by decide +kernel
theorem dX9_becomes_24 : decode cX9_becomes 24 = .ok (.ireturn, 1) := by decide +kernel
set_option maxRecDepth 20000 in
theorem ggX9_depot_X9_isVillage : GoodIn wsX9_depot wsX9_isVillage := goodIn_r _ [5, 6, 7, 8, 4, 9, 20, 21, 22, 23, 24, 25, 26, 27, 28, 29, 30, 31, 32, 33, 34, 35, 36, 37, 38, 39, 40, 41] (by decide +kernel) (by decide +kernel)
set_option maxRecDepth 20000 in
theorem gX9_depot_X9_isVillage : GoodIn wsX9_depot (wsV RX9 49 RX9 yX9_isVillage wsX9_isVillage) := goodIn_app (goodIn_of _ (by decide +kernel)) ggX9_depot_X9_isVillage
set_option maxRecDepth 20000 in
theorem ggX9_depot_X9_in : GoodIn wsX9_depot wsX9_in := goodIn_r _ [9] (by decide +kernel) (by decide +kernel)
set_option maxRecDepth 20000 in
theorem gX9_depot_X9_in : GoodIn wsX9_depot (va_wsS RX9 39 yX9_in wsX9_in) := goodIn_app (goodIn_of _ (by decide +kernel)) ggX9_depot_X9_in
set_option maxRecDepth 20000 in
theorem ggX9_depot_X9_becomes : GoodIn wsX9_depot wsX9_becomes := goodIn_r _ [13, 14, 20, 21, 22, 23, 24, 25, 26, 27, 28, 29, 30, 31, 32, 33, 34, 35, 36, 37, 38, 39, 40, 41] (by decide +kernel) (by decide +kernel)
set_option maxRecDepth 20000 in
theorem gX9_depot_X9_becomes : GoodIn wsX9_depot (wsV RX9 66 RX9 yX9_becomes wsX9_becomes) := goodIn_app (goodIn_of _ (by decide +kernel)) ggX9_depot_X9_becomes
set_option maxRecDepth 20000 in
theorem ggX9_depot_X9_refuse : GoodIn wsX9_depot wsX9_refuse := goodIn_r _ [18, 19, 20, 21, 22, 23, 24, 25, 26, 27, 28, 29, 30, 31, 32, 33, 34, 35, 36, 37, 38, 39, 40, 41] (by decide +kernel) (by decide +kernel)
set_option maxRecDepth 20000 in
theorem gX9_depot_X9_refuse : GoodIn wsX9_depot (wsV RX9 55 RX9 yX9_refuse wsX9_refuse) := goodIn_app (goodIn_of _ (by decide +kernel)) ggX9_depot_X9_refuse
theorem dX9_depot_0 : decode cX9_depot 0 = .ok (.aload_n 0, 1) := by decide +kernel
theorem dX9_depot_1 : decode cX9_depot 1 = .ok (.iload_n 1, 1) := by decide +kernel
theorem dX9_depot_2 : decode cX9_depot 2 = .ok (.invokevirtual 49, 3) := by decide +kernel
theorem dX9_depot_5 : decode cX9_depot 5 = .ok (.ifCond .eq 31, 3) := by decide +kernel
theorem dX9_depot_8 : decode cX9_depot 8 = .ok (.iload_n 2, 1) := by decide +kernel
theorem dX9_depot_9 : decode cX9_depot 9 = .ok (.i2l, 1) := by decide +kernel
theorem dX9_depot_10 : decode cX9_depot 10 = .ok (.lconst 0, 1) := by decide +kernel
theorem dX9_depot_11 : decode cX9_depot 11 = .ok (.lconst 1, 1) := by decide +kernel
theorem dX9_depot_12 : decode cX9_depot 12 = .ok (.invokestatic 39, 3) := by decide +kernel
theorem dX9_depot_15 : decode cX9_depot 15 = .ok (.ifCond .eq 21, 3) := by decide +kernel
theorem dX9_depot_18 : decode cX9_depot 18 = .ok (.aload_n 0, 1) := by decide +kernel
theorem dX9_depot_19 : decode cX9_depot 19 = .ok (.iload_n 1, 1) := by decide +kernel
theorem dX9_depot_20 : decode cX9_depot 20 = .ok (.iload_n 2, 1) := by decide +kernel
theorem dX9_depot_21 : decode cX9_depot 21 = .ok (.iconst 1, 1) := by decide +kernel
theorem dX9_depot_22 : decode cX9_depot 22 = .ok (.if_icmp .ne 7, 3) := by decide +kernel
theorem dX9_depot_25 : decode cX9_depot 25 = .ok (.iconst 1, 1) := by decide +kernel
theorem dX9_depot_26 : decode cX9_depot 26 = .ok (.goto 4, 3) := by decide +kernel
theorem dX9_depot_29 : decode cX9_depot 29 = .ok (.iconst 0, 1) := by decide +kernel
theorem dX9_depot_30 : decode cX9_depot 30 = .ok (.invokevirtual 66, 3) := by decide +kernel
theorem dX9_depot_33 : decode cX9_depot 33 = .ok (.goto 7, 3) := by decide +kernel
theorem dX9_depot_36 : decode cX9_depot 36 = .ok (.aload_n 0, 1) := by decide +kernel
theorem dX9_depot_37 : decode cX9_depot 37 = .ok (.invokevirtual 55, 3) := by decide +kernel
theorem dX9_depot_40 : decode cX9_depot 40 = .ok (.ireturn, 1) := by decide +kernel
theorem dX9_lengthen_0 : decode cX9_lengthen 0 = .ok (.aload_n 0, 1) := by decide +kernel
theorem dX9_lengthen_1 : decode cX9_lengthen 1 = .ok (.getfield 13, 3) := by decide +kernel
theorem dX9_lengthen_4 : decode cX9_lengthen 4 = .ok (.iload_n 1, 1) := by decide +kernel
theorem dX9_lengthen_5 : decode cX9_lengthen 5 = .ok (.iaload, 1) := by decide +kernel
theorem dX9_lengthen_6 : decode cX9_lengthen 6 = .ok (.istore_n 3, 1) := by decide +kernel
theorem dX9_lengthen_7 : decode cX9_lengthen 7 = .ok (.aload_n 0, 1) := by decide +kernel
theorem dX9_lengthen_8 : decode cX9_lengthen 8 = .ok (.getfield 13, 3) := by decide +kernel
theorem dX9_lengthen_11 : decode cX9_lengthen 11 = .ok (.iload_n 1, 1) := by decide +kernel
theorem dX9_lengthen_12 : decode cX9_lengthen 12 = .ok (.iload_n 2, 1) := by decide +kernel
theorem dX9_lengthen_13 : decode cX9_lengthen 13 = .ok (.iastore, 1) := by decide +kernel
theorem dX9_lengthen_14 : decode cX9_lengthen 14 = .ok (.iload_n 3, 1) := by decide +kernel
theorem dX9_lengthen_15 : decode cX9_lengthen 15 = .ok (.ireturn, 1) := by decide +kernel
set_option maxRecDepth 20000 in
theorem ggX9_road_X9_isVillage : GoodIn wsX9_road wsX9_isVillage := goodIn_r _ [6, 7, 8, 9, 5, 10, 21, 22, 23, 24, 25, 26, 27, 28, 29, 30, 31, 32, 33, 34, 35, 36, 37, 38, 39, 40, 41, 42] (by decide +kernel) (by decide +kernel)
set_option maxRecDepth 20000 in
theorem gX9_road_X9_isVillage : GoodIn wsX9_road (wsV RX9 49 RX9 yX9_isVillage wsX9_isVillage) := goodIn_app (goodIn_of _ (by decide +kernel)) ggX9_road_X9_isVillage
set_option maxRecDepth 20000 in
theorem ggX9_road_X9_in : GoodIn wsX9_road wsX9_in := goodIn_r _ [10] (by decide +kernel) (by decide +kernel)
set_option maxRecDepth 20000 in
theorem gX9_road_X9_in : GoodIn wsX9_road (va_wsS RX9 39 yX9_in wsX9_in) := goodIn_app (goodIn_of _ (by decide +kernel)) ggX9_road_X9_in
set_option maxRecDepth 20000 in
theorem ggX9_road_X9_lengthen : GoodIn wsX9_road wsX9_lengthen := goodIn_r _ [14, 15, 21, 22, 23, 24, 25, 26, 27, 28, 29, 30, 31, 32, 33, 34, 35, 36, 37, 38, 39, 40, 41, 42] (by decide +kernel) (by decide +kernel)
set_option maxRecDepth 20000 in
theorem gX9_road_X9_lengthen : GoodIn wsX9_road (wsV RX9 70 RX9 yX9_lengthen wsX9_lengthen) := goodIn_app (goodIn_of _ (by decide +kernel)) ggX9_road_X9_lengthen
set_option maxRecDepth 20000 in
theorem ggX9_road_X9_refuse : GoodIn wsX9_road wsX9_refuse := goodIn_r _ [19, 20, 21, 22, 23, 24, 25, 26, 27, 28, 29, 30, 31, 32, 33, 34, 35, 36, 37, 38, 39, 40, 41, 42] (by decide +kernel) (by decide +kernel)
set_option maxRecDepth 20000 in
theorem gX9_road_X9_refuse : GoodIn wsX9_road (wsV RX9 55 RX9 yX9_refuse wsX9_refuse) := goodIn_app (goodIn_of _ (by decide +kernel)) ggX9_road_X9_refuse
theorem dX9_road_0 : decode cX9_road 0 = .ok (.aload_n 0, 1) := by decide +kernel
theorem dX9_road_1 : decode cX9_road 1 = .ok (.iload_n 1, 1) := by decide +kernel
theorem dX9_road_2 : decode cX9_road 2 = .ok (.invokevirtual 49, 3) := by decide +kernel
theorem dX9_road_5 : decode cX9_road 5 = .ok (.ifCond .eq 28, 3) := by decide +kernel
theorem dX9_road_8 : decode cX9_road 8 = .ok (.iload_n 1, 1) := by decide +kernel
theorem dX9_road_9 : decode cX9_road 9 = .ok (.ifCond .le 24, 3) := by decide +kernel
theorem dX9_road_12 : decode cX9_road 12 = .ok (.iload_n 2, 1) := by decide +kernel
theorem dX9_road_13 : decode cX9_road 13 = .ok (.i2l, 1) := by decide +kernel
theorem dX9_road_14 : decode cX9_road 14 = .ok (.lconst 1, 1) := by decide +kernel
theorem dX9_road_15 : decode cX9_road 15 = .ok (.ldc2_w 53, 3) := by decide +kernel
theorem dX9_road_18 : decode cX9_road 18 = .ok (.invokestatic 39, 3) := by decide +kernel
theorem dX9_road_21 : decode cX9_road 21 = .ok (.ifCond .eq 12, 3) := by decide +kernel
theorem dX9_road_24 : decode cX9_road 24 = .ok (.aload_n 0, 1) := by decide +kernel
theorem dX9_road_25 : decode cX9_road 25 = .ok (.iload_n 1, 1) := by decide +kernel
theorem dX9_road_26 : decode cX9_road 26 = .ok (.iload_n 2, 1) := by decide +kernel
theorem dX9_road_27 : decode cX9_road 27 = .ok (.invokevirtual 70, 3) := by decide +kernel
theorem dX9_road_30 : decode cX9_road 30 = .ok (.goto 7, 3) := by decide +kernel
theorem dX9_road_33 : decode cX9_road 33 = .ok (.aload_n 0, 1) := by decide +kernel
theorem dX9_road_34 : decode cX9_road 34 = .ok (.invokevirtual 55, 3) := by decide +kernel
theorem dX9_road_37 : decode cX9_road 37 = .ok (.ireturn, 1) := by decide +kernel
theorem dX9_anew_0 : decode cX9_anew 0 = .ok (.aload_n 0, 1) := by decide +kernel
theorem dX9_anew_1 : decode cX9_anew 1 = .ok (.getfield 35, 3) := by decide +kernel
theorem dX9_anew_4 : decode cX9_anew 4 = .ok (.istore_n 1, 1) := by decide +kernel
theorem dX9_anew_5 : decode cX9_anew 5 = .ok (.aload_n 0, 1) := by decide +kernel
theorem dX9_anew_6 : decode cX9_anew 6 = .ok (.iconst 1, 1) := by decide +kernel
theorem dX9_anew_7 : decode cX9_anew 7 = .ok (.putfield 35, 3) := by decide +kernel
theorem dX9_anew_10 : decode cX9_anew 10 = .ok (.aload_n 0, 1) := by decide +kernel
theorem dX9_anew_11 : decode cX9_anew 11 = .ok (.getfield 16, 3) := by decide +kernel
theorem dX9_anew_14 : decode cX9_anew 14 = .ok (.iconst 0, 1) := by decide +kernel
theorem dX9_anew_15 : decode cX9_anew 15 = .ok (.iconst 0, 1) := by decide +kernel
theorem dX9_anew_16 : decode cX9_anew 16 = .ok (.bastore, 1) := by decide +kernel
theorem dX9_anew_17 : decode cX9_anew 17 = .ok (.iload_n 1, 1) := by decide +kernel
theorem dX9_anew_18 : decode cX9_anew 18 = .ok (.ireturn, 1) := by decide +kernel
set_option maxRecDepth 20000 in
theorem ggX9_draw_X9_in : GoodIn wsX9_draw wsX9_in := goodIn_r _ [15] (by decide +kernel) (by decide +kernel)
set_option maxRecDepth 20000 in
theorem gX9_draw_X9_in : GoodIn wsX9_draw (va_wsS RX9 39 yX9_in wsX9_in) := goodIn_app (goodIn_of _ (by decide +kernel)) ggX9_draw_X9_in
set_option maxRecDepth 20000 in
theorem ggX9_draw_X9_refuse : GoodIn wsX9_draw wsX9_refuse := goodIn_r _ [19, 20, 31, 32, 33, 34, 35, 36, 37, 38, 39, 40, 41, 42, 43, 44, 45, 46, 47, 48, 49, 50, 51, 52] (by decide +kernel) (by decide +kernel)
set_option maxRecDepth 20000 in
theorem gX9_draw_X9_refuse : GoodIn wsX9_draw (wsV RX9 55 RX9 yX9_refuse wsX9_refuse) := goodIn_app (goodIn_of _ (by decide +kernel)) ggX9_draw_X9_refuse
set_option maxRecDepth 20000 in
theorem ggX9_draw_X9_anew : GoodIn wsX9_draw wsX9_anew := goodIn_r _ [24, 7, 9, 31, 32, 33, 34, 35, 36, 37, 38, 39, 40, 41, 42, 43, 44, 45, 46, 47, 48, 49, 50, 51, 52] (by decide +kernel) (by decide +kernel)
set_option maxRecDepth 20000 in
theorem gX9_draw_X9_anew : GoodIn wsX9_draw (wsV RX9 77 RX9 yX9_anew wsX9_anew) := goodIn_app (goodIn_of _ (by decide +kernel)) ggX9_draw_X9_anew
set_option maxRecDepth 20000 in
theorem ggX9_draw_X9_come : GoodIn wsX9_draw wsX9_come := goodIn_r _ [28, 29, 7, 30, 9, 31, 32, 33, 34, 35, 36, 37, 38, 39, 40, 41, 42, 43, 44, 45, 46, 47, 48, 49, 50, 51, 52] (by decide +kernel) (by decide +kernel)
set_option maxRecDepth 20000 in
theorem gX9_draw_X9_come : GoodIn wsX9_draw (wsV RX9 62 RX9 yX9_come wsX9_come) := goodIn_app (goodIn_of _ (by decide +kernel)) ggX9_draw_X9_come
theorem dX9_draw_0 : decode cX9_draw 0 = .ok (.iload_n 1, 1) := by decide +kernel
theorem dX9_draw_1 : decode cX9_draw 1 = .ok (.i2l, 1) := by decide +kernel
theorem dX9_draw_2 : decode cX9_draw 2 = .ok (.lconst 0, 1) := by decide +kernel
theorem dX9_draw_3 : decode cX9_draw 3 = .ok (.ldc2_w 73, 3) := by decide +kernel
theorem dX9_draw_6 : decode cX9_draw 6 = .ok (.invokestatic 39, 3) := by decide +kernel
theorem dX9_draw_9 : decode cX9_draw 9 = .ok (.ifCond .eq 15, 3) := by decide +kernel
theorem dX9_draw_12 : decode cX9_draw 12 = .ok (.iload_n 2, 1) := by decide +kernel
theorem dX9_draw_13 : decode cX9_draw 13 = .ok (.i2l, 1) := by decide +kernel
theorem dX9_draw_14 : decode cX9_draw 14 = .ok (.lconst 0, 1) := by decide +kernel
theorem dX9_draw_15 : decode cX9_draw 15 = .ok (.ldc2_w 75, 3) := by decide +kernel
theorem dX9_draw_18 : decode cX9_draw 18 = .ok (.invokestatic 39, 3) := by decide +kernel
theorem dX9_draw_21 : decode cX9_draw 21 = .ok (.ifCond .ne 8, 3) := by decide +kernel
theorem dX9_draw_24 : decode cX9_draw 24 = .ok (.aload_n 0, 1) := by decide +kernel
theorem dX9_draw_25 : decode cX9_draw 25 = .ok (.invokevirtual 55, 3) := by decide +kernel
theorem dX9_draw_28 : decode cX9_draw 28 = .ok (.ireturn, 1) := by decide +kernel
theorem dX9_draw_29 : decode cX9_draw 29 = .ok (.aload_n 0, 1) := by decide +kernel
theorem dX9_draw_30 : decode cX9_draw 30 = .ok (.invokevirtual 77, 3) := by decide +kernel
theorem dX9_draw_33 : decode cX9_draw 33 = .ok (.pop, 1) := by decide +kernel
theorem dX9_draw_34 : decode cX9_draw 34 = .ok (.iload_n 1, 1) := by decide +kernel
theorem dX9_draw_35 : decode cX9_draw 35 = .ok (.i2l, 1) := by decide +kernel
theorem dX9_draw_36 : decode cX9_draw 36 = .ok (.lstore_n 3, 1) := by decide +kernel
theorem dX9_draw_37 : decode cX9_draw 37 = .ok (.iconst 0, 1) := by decide +kernel
theorem dX9_draw_38 : decode cX9_draw 38 = .ok (.istore 5, 2) := by decide +kernel
theorem dX9_draw_40 : decode cX9_draw 40 = .ok (.iconst 0, 1) := by decide +kernel
theorem dX9_draw_41 : decode cX9_draw 41 = .ok (.istore 6, 2) := by decide +kernel
theorem dX9_draw_43 : decode cX9_draw 43 = .ok (.iload 6, 2) := by decide +kernel
theorem dX9_draw_45 : decode cX9_draw 45 = .ok (.iload_n 2, 1) := by decide +kernel
theorem dX9_draw_46 : decode cX9_draw 46 = .ok (.if_icmp .ge 97, 3) := by decide +kernel
theorem dX9_draw_49 : decode cX9_draw 49 = .ok (.lload_n 3, 1) := by decide +kernel
theorem dX9_draw_50 : decode cX9_draw 50 = .ok (.ldc2_w 80, 3) := by decide +kernel
theorem dX9_draw_53 : decode cX9_draw 53 = .ok (.lmul, 1) := by decide +kernel
theorem dX9_draw_54 : decode cX9_draw 54 = .ok (.ldc2_w 82, 3) := by decide +kernel
theorem dX9_draw_57 : decode cX9_draw 57 = .ok (.ladd, 1) := by decide +kernel
theorem dX9_draw_58 : decode cX9_draw 58 = .ok (.ldc2_w 84, 3) := by decide +kernel
theorem dX9_draw_61 : decode cX9_draw 61 = .ok (.lrem, 1) := by decide +kernel
theorem dX9_draw_62 : decode cX9_draw 62 = .ok (.lstore_n 3, 1) := by decide +kernel
theorem dX9_draw_63 : decode cX9_draw 63 = .ok (.aload_n 0, 1) := by decide +kernel
theorem dX9_draw_64 : decode cX9_draw 64 = .ok (.lload_n 3, 1) := by decide +kernel
theorem dX9_draw_65 : decode cX9_draw 65 = .ok (.ldc2_w 86, 3) := by decide +kernel
theorem dX9_draw_68 : decode cX9_draw 68 = .ok (.ldiv, 1) := by decide +kernel
theorem dX9_draw_69 : decode cX9_draw 69 = .ok (.l2i, 1) := by decide +kernel
theorem dX9_draw_70 : decode cX9_draw 70 = .ok (.aload_n 0, 1) := by decide +kernel
theorem dX9_draw_71 : decode cX9_draw 71 = .ok (.getfield 35, 3) := by decide +kernel
theorem dX9_draw_74 : decode cX9_draw 74 = .ok (.irem, 1) := by decide +kernel
theorem dX9_draw_75 : decode cX9_draw 75 = .ok (.lload_n 3, 1) := by decide +kernel
theorem dX9_draw_76 : decode cX9_draw 76 = .ok (.ldc2_w 88, 3) := by decide +kernel
theorem dX9_draw_79 : decode cX9_draw 79 = .ok (.ldiv, 1) := by decide +kernel
theorem dX9_draw_80 : decode cX9_draw 80 = .ok (.l2i, 1) := by decide +kernel
theorem dX9_draw_81 : decode cX9_draw 81 = .ok (.bipush 99, 2) := by decide +kernel
theorem dX9_draw_83 : decode cX9_draw 83 = .ok (.irem, 1) := by decide +kernel
theorem dX9_draw_84 : decode cX9_draw 84 = .ok (.iconst 1, 1) := by decide +kernel
theorem dX9_draw_85 : decode cX9_draw 85 = .ok (.iadd, 1) := by decide +kernel
theorem dX9_draw_86 : decode cX9_draw 86 = .ok (.invokevirtual 62, 3) := by decide +kernel
theorem dX9_draw_89 : decode cX9_draw 89 = .ok (.istore 7, 2) := by decide +kernel
theorem dX9_draw_91 : decode cX9_draw 91 = .ok (.aload_n 0, 1) := by decide +kernel
theorem dX9_draw_92 : decode cX9_draw 92 = .ok (.getfield 16, 3) := by decide +kernel
theorem dX9_draw_95 : decode cX9_draw 95 = .ok (.iload 7, 2) := by decide +kernel
theorem dX9_draw_97 : decode cX9_draw 97 = .ok (.lload_n 3, 1) := by decide +kernel
theorem dX9_draw_98 : decode cX9_draw 98 = .ok (.ldc2_w 90, 3) := by decide +kernel
theorem dX9_draw_101 : decode cX9_draw 101 = .ok (.ldiv, 1) := by decide +kernel
theorem dX9_draw_102 : decode cX9_draw 102 = .ok (.ldc2_w 92, 3) := by decide +kernel
theorem dX9_draw_105 : decode cX9_draw 105 = .ok (.lrem, 1) := by decide +kernel
theorem dX9_draw_106 : decode cX9_draw 106 = .ok (.lconst 0, 1) := by decide +kernel
theorem dX9_draw_107 : decode cX9_draw 107 = .ok (.lcmp, 1) := by decide +kernel
theorem dX9_draw_108 : decode cX9_draw 108 = .ok (.ifCond .ne 7, 3) := by decide +kernel
theorem dX9_draw_111 : decode cX9_draw 111 = .ok (.iconst 1, 1) := by decide +kernel
theorem dX9_draw_112 : decode cX9_draw 112 = .ok (.goto 4, 3) := by decide +kernel
theorem dX9_draw_115 : decode cX9_draw 115 = .ok (.iconst 0, 1) := by decide +kernel
theorem dX9_draw_116 : decode cX9_draw 116 = .ok (.bastore, 1) := by decide +kernel
theorem dX9_draw_117 : decode cX9_draw 117 = .ok (.iload 5, 2) := by decide +kernel
theorem dX9_draw_119 : decode cX9_draw 119 = .ok (.aload_n 0, 1) := by decide +kernel
theorem dX9_draw_120 : decode cX9_draw 120 = .ok (.getfield 16, 3) := by decide +kernel
theorem dX9_draw_123 : decode cX9_draw 123 = .ok (.iload 7, 2) := by decide +kernel
theorem dX9_draw_125 : decode cX9_draw 125 = .ok (.baload, 1) := by decide +kernel
theorem dX9_draw_126 : decode cX9_draw 126 = .ok (.ifCond .eq 7, 3) := by decide +kernel
theorem dX9_draw_129 : decode cX9_draw 129 = .ok (.iconst 1, 1) := by decide +kernel
theorem dX9_draw_130 : decode cX9_draw 130 = .ok (.goto 4, 3) := by decide +kernel
theorem dX9_draw_133 : decode cX9_draw 133 = .ok (.iconst 0, 1) := by decide +kernel
theorem dX9_draw_134 : decode cX9_draw 134 = .ok (.iadd, 1) := by decide +kernel
theorem dX9_draw_135 : decode cX9_draw 135 = .ok (.istore 5, 2) := by decide +kernel
theorem dX9_draw_137 : decode cX9_draw 137 = .ok (.iinc 6 1, 3) := by decide +kernel
theorem dX9_draw_140 : decode cX9_draw 140 = .ok (.goto (-97), 3) := by decide +kernel
theorem dX9_draw_143 : decode cX9_draw 143 = .ok (.iload 5, 2) := by decide +kernel
theorem dX9_draw_145 : decode cX9_draw 145 = .ok (.ireturn, 1) := by decide +kernel
set_option maxRecDepth 20000 in
theorem ggX9_of_X9_isVillage : GoodIn wsX9_of wsX9_isVillage := goodIn_r _ [8, 2, 9, 10, 7, 11, 23, 24, 25, 26, 27, 28, 29, 30, 31, 32, 33, 34, 35, 36, 37, 38, 39, 40, 41, 42, 43, 44] (by decide +kernel) (by decide +kernel)
set_option maxRecDepth 20000 in
theorem gX9_of_X9_isVillage : GoodIn wsX9_of (wsV RX9 49 RX9 yX9_isVillage wsX9_isVillage) := goodIn_app (goodIn_of _ (by decide +kernel)) ggX9_of_X9_isVillage
set_option maxRecDepth 20000 in
theorem ggX9_of_X9_in : GoodIn wsX9_of wsX9_in := goodIn_r _ [11] (by decide +kernel) (by decide +kernel)
set_option maxRecDepth 20000 in
theorem gX9_of_X9_in : GoodIn wsX9_of (va_wsS RX9 39 yX9_in wsX9_in) := goodIn_app (goodIn_of _ (by decide +kernel)) ggX9_of_X9_in
set_option maxRecDepth 20000 in
theorem ggX9_of_X9_refuse : GoodIn wsX9_of wsX9_refuse := goodIn_r _ [15, 16, 23, 24, 25, 26, 27, 28, 29, 30, 31, 32, 33, 34, 35, 36, 37, 38, 39, 40, 41, 42, 43, 44] (by decide +kernel) (by decide +kernel)
set_option maxRecDepth 20000 in
theorem gX9_of_X9_refuse : GoodIn wsX9_of (wsV RX9 55 RX9 yX9_refuse wsX9_refuse) := goodIn_app (goodIn_of _ (by decide +kernel)) ggX9_of_X9_refuse
set_option maxRecDepth 20000 in
theorem ggX9_of_X9_partOf : GoodIn wsX9_of wsX9_partOf := goodIn_r _ [20, 3, 21, 22, 23, 24, 25, 26, 27, 28, 29, 30, 31, 32, 33, 34, 35, 36, 37, 38, 39, 40, 41, 42, 43, 44] (by decide +kernel) (by decide +kernel)
set_option maxRecDepth 20000 in
theorem gX9_of_X9_partOf : GoodIn wsX9_of (wsV RX9 96 RX9 yX9_partOf wsX9_partOf) := goodIn_app (goodIn_of _ (by decide +kernel)) ggX9_of_X9_partOf
theorem dX9_of_0 : decode cX9_of 0 = .ok (.aload_n 0, 1) := by decide +kernel
theorem dX9_of_1 : decode cX9_of 1 = .ok (.iload_n 1, 1) := by decide +kernel
theorem dX9_of_2 : decode cX9_of 2 = .ok (.invokevirtual 49, 3) := by decide +kernel
theorem dX9_of_5 : decode cX9_of 5 = .ok (.ifCond .eq 15, 3) := by decide +kernel
theorem dX9_of_8 : decode cX9_of 8 = .ok (.iload_n 2, 1) := by decide +kernel
theorem dX9_of_9 : decode cX9_of 9 = .ok (.i2l, 1) := by decide +kernel
theorem dX9_of_10 : decode cX9_of 10 = .ok (.lconst 0, 1) := by decide +kernel
theorem dX9_of_11 : decode cX9_of 11 = .ok (.ldc2_w 94, 3) := by decide +kernel
theorem dX9_of_14 : decode cX9_of 14 = .ok (.invokestatic 39, 3) := by decide +kernel
theorem dX9_of_17 : decode cX9_of 17 = .ok (.ifCond .ne 8, 3) := by decide +kernel
theorem dX9_of_20 : decode cX9_of 20 = .ok (.aload_n 0, 1) := by decide +kernel
theorem dX9_of_21 : decode cX9_of 21 = .ok (.invokevirtual 55, 3) := by decide +kernel
theorem dX9_of_24 : decode cX9_of 24 = .ok (.ireturn, 1) := by decide +kernel
theorem dX9_of_25 : decode cX9_of 25 = .ok (.iload_n 2, 1) := by decide +kernel
theorem dX9_of_26 : decode cX9_of 26 = .ok (.iconst 3, 1) := by decide +kernel
theorem dX9_of_27 : decode cX9_of 27 = .ok (.if_icmp .ne 52, 3) := by decide +kernel
theorem dX9_of_30 : decode cX9_of 30 = .ok (.iload_n 1, 1) := by decide +kernel
theorem dX9_of_31 : decode cX9_of 31 = .ok (.ifCond .le 7, 3) := by decide +kernel
theorem dX9_of_34 : decode cX9_of 34 = .ok (.iconst 1, 1) := by decide +kernel
theorem dX9_of_35 : decode cX9_of 35 = .ok (.goto 4, 3) := by decide +kernel
theorem dX9_of_38 : decode cX9_of 38 = .ok (.iconst 0, 1) := by decide +kernel
theorem dX9_of_39 : decode cX9_of 39 = .ok (.istore_n 3, 1) := by decide +kernel
theorem dX9_of_40 : decode cX9_of 40 = .ok (.iconst 1, 1) := by decide +kernel
theorem dX9_of_41 : decode cX9_of 41 = .ok (.istore 4, 2) := by decide +kernel
theorem dX9_of_43 : decode cX9_of 43 = .ok (.iload 4, 2) := by decide +kernel
theorem dX9_of_45 : decode cX9_of 45 = .ok (.aload_n 0, 1) := by decide +kernel
theorem dX9_of_46 : decode cX9_of 46 = .ok (.getfield 35, 3) := by decide +kernel
theorem dX9_of_49 : decode cX9_of 49 = .ok (.if_icmp .ge 28, 3) := by decide +kernel
theorem dX9_of_52 : decode cX9_of 52 = .ok (.iload_n 3, 1) := by decide +kernel
theorem dX9_of_53 : decode cX9_of 53 = .ok (.aload_n 0, 1) := by decide +kernel
theorem dX9_of_54 : decode cX9_of 54 = .ok (.getfield 7, 3) := by decide +kernel
theorem dX9_of_57 : decode cX9_of 57 = .ok (.iload 4, 2) := by decide +kernel
theorem dX9_of_59 : decode cX9_of 59 = .ok (.iaload, 1) := by decide +kernel
theorem dX9_of_60 : decode cX9_of 60 = .ok (.iload_n 1, 1) := by decide +kernel
theorem dX9_of_61 : decode cX9_of 61 = .ok (.if_icmp .ne 7, 3) := by decide +kernel
theorem dX9_of_64 : decode cX9_of 64 = .ok (.iconst 1, 1) := by decide +kernel
theorem dX9_of_65 : decode cX9_of 65 = .ok (.goto 4, 3) := by decide +kernel
theorem dX9_of_68 : decode cX9_of 68 = .ok (.iconst 0, 1) := by decide +kernel
theorem dX9_of_69 : decode cX9_of 69 = .ok (.iadd, 1) := by decide +kernel
theorem dX9_of_70 : decode cX9_of 70 = .ok (.istore_n 3, 1) := by decide +kernel
theorem dX9_of_71 : decode cX9_of 71 = .ok (.iinc 4 1, 3) := by decide +kernel
theorem dX9_of_74 : decode cX9_of 74 = .ok (.goto (-31), 3) := by decide +kernel
theorem dX9_of_77 : decode cX9_of 77 = .ok (.iload_n 3, 1) := by decide +kernel
theorem dX9_of_78 : decode cX9_of 78 = .ok (.ireturn, 1) := by decide +kernel
theorem dX9_of_79 : decode cX9_of 79 = .ok (.aload_n 0, 1) := by decide +kernel
theorem dX9_of_80 : decode cX9_of 80 = .ok (.iload_n 1, 1) := by decide +kernel
theorem dX9_of_81 : decode cX9_of 81 = .ok (.iload_n 2, 1) := by decide +kernel
theorem dX9_of_82 : decode cX9_of 82 = .ok (.invokevirtual 96, 3) := by decide +kernel
theorem dX9_of_85 : decode cX9_of 85 = .ok (.ireturn, 1) := by decide +kernel
theorem dX9_partOf_0 : decode cX9_partOf 0 = .ok (.iload_n 2, 1) := by decide +kernel
theorem dX9_partOf_1 : decode cX9_partOf 1 = .ok (.ifCond .ne 12, 3) := by decide +kernel
theorem dX9_partOf_4 : decode cX9_partOf 4 = .ok (.aload_n 0, 1) := by decide +kernel
theorem dX9_partOf_5 : decode cX9_partOf 5 = .ok (.getfield 7, 3) := by decide +kernel
theorem dX9_partOf_8 : decode cX9_partOf 8 = .ok (.iload_n 1, 1) := by decide +kernel
theorem dX9_partOf_9 : decode cX9_partOf 9 = .ok (.iaload, 1) := by decide +kernel
theorem dX9_partOf_10 : decode cX9_partOf 10 = .ok (.goto 39, 3) := by decide +kernel
theorem dX9_partOf_13 : decode cX9_partOf 13 = .ok (.iload_n 2, 1) := by decide +kernel
theorem dX9_partOf_14 : decode cX9_partOf 14 = .ok (.iconst 1, 1) := by decide +kernel
theorem dX9_partOf_15 : decode cX9_partOf 15 = .ok (.if_icmp .ne 20, 3) := by decide +kernel
theorem dX9_partOf_18 : decode cX9_partOf 18 = .ok (.iload_n 1, 1) := by decide +kernel
theorem dX9_partOf_19 : decode cX9_partOf 19 = .ok (.ifCond .ne 7, 3) := by decide +kernel
theorem dX9_partOf_22 : decode cX9_partOf 22 = .ok (.iconst 0, 1) := by decide +kernel
theorem dX9_partOf_23 : decode cX9_partOf 23 = .ok (.goto 26, 3) := by decide +kernel
theorem dX9_partOf_26 : decode cX9_partOf 26 = .ok (.aload_n 0, 1) := by decide +kernel
theorem dX9_partOf_27 : decode cX9_partOf 27 = .ok (.getfield 13, 3) := by decide +kernel
theorem dX9_partOf_30 : decode cX9_partOf 30 = .ok (.iload_n 1, 1) := by decide +kernel
theorem dX9_partOf_31 : decode cX9_partOf 31 = .ok (.iaload, 1) := by decide +kernel
theorem dX9_partOf_32 : decode cX9_partOf 32 = .ok (.goto 17, 3) := by decide +kernel
theorem dX9_partOf_35 : decode cX9_partOf 35 = .ok (.aload_n 0, 1) := by decide +kernel
theorem dX9_partOf_36 : decode cX9_partOf 36 = .ok (.getfield 16, 3) := by decide +kernel
theorem dX9_partOf_39 : decode cX9_partOf 39 = .ok (.iload_n 1, 1) := by decide +kernel
theorem dX9_partOf_40 : decode cX9_partOf 40 = .ok (.baload, 1) := by decide +kernel
theorem dX9_partOf_41 : decode cX9_partOf 41 = .ok (.ifCond .eq 7, 3) := by decide +kernel
theorem dX9_partOf_44 : decode cX9_partOf 44 = .ok (.iconst 1, 1) := by decide +kernel
theorem dX9_partOf_45 : decode cX9_partOf 45 = .ok (.goto 4, 3) := by decide +kernel
theorem dX9_partOf_48 : decode cX9_partOf 48 = .ok (.iconst 0, 1) := by decide +kernel
theorem dX9_partOf_49 : decode cX9_partOf 49 = .ok (.ireturn, 1) := by decide +kernel
theorem dX9_farFrom_0 : decode cX9_farFrom 0 = .ok (.iload_n 1, 1) := by decide +kernel
theorem dX9_farFrom_1 : decode cX9_farFrom 1 = .ok (.istore_n 3, 1) := by decide +kernel
theorem dX9_farFrom_2 : decode cX9_farFrom 2 = .ok (.iload_n 2, 1) := by decide +kernel
theorem dX9_farFrom_3 : decode cX9_farFrom 3 = .ok (.istore 4, 2) := by decide +kernel
theorem dX9_farFrom_5 : decode cX9_farFrom 5 = .ok (.iconst 0, 1) := by decide +kernel
theorem dX9_farFrom_6 : decode cX9_farFrom 6 = .ok (.istore 5, 2) := by decide +kernel
theorem dX9_farFrom_8 : decode cX9_farFrom 8 = .ok (.iload_n 3, 1) := by decide +kernel
theorem dX9_farFrom_9 : decode cX9_farFrom 9 = .ok (.iload 4, 2) := by decide +kernel
theorem dX9_farFrom_11 : decode cX9_farFrom 11 = .ok (.if_icmp .eq 54, 3) := by decide +kernel
theorem dX9_farFrom_14 : decode cX9_farFrom 14 = .ok (.iload_n 3, 1) := by decide +kernel
theorem dX9_farFrom_15 : decode cX9_farFrom 15 = .ok (.iload 4, 2) := by decide +kernel
theorem dX9_farFrom_17 : decode cX9_farFrom 17 = .ok (.if_icmp .le 24, 3) := by decide +kernel
theorem dX9_farFrom_20 : decode cX9_farFrom 20 = .ok (.iload 5, 2) := by decide +kernel
theorem dX9_farFrom_22 : decode cX9_farFrom 22 = .ok (.aload_n 0, 1) := by decide +kernel
theorem dX9_farFrom_23 : decode cX9_farFrom 23 = .ok (.getfield 13, 3) := by decide +kernel
theorem dX9_farFrom_26 : decode cX9_farFrom 26 = .ok (.iload_n 3, 1) := by decide +kernel
theorem dX9_farFrom_27 : decode cX9_farFrom 27 = .ok (.iaload, 1) := by decide +kernel
theorem dX9_farFrom_28 : decode cX9_farFrom 28 = .ok (.iadd, 1) := by decide +kernel
theorem dX9_farFrom_29 : decode cX9_farFrom 29 = .ok (.istore 5, 2) := by decide +kernel
theorem dX9_farFrom_31 : decode cX9_farFrom 31 = .ok (.aload_n 0, 1) := by decide +kernel
theorem dX9_farFrom_32 : decode cX9_farFrom 32 = .ok (.getfield 7, 3) := by decide +kernel
theorem dX9_farFrom_35 : decode cX9_farFrom 35 = .ok (.iload_n 3, 1) := by decide +kernel
theorem dX9_farFrom_36 : decode cX9_farFrom 36 = .ok (.iaload, 1) := by decide +kernel
theorem dX9_farFrom_37 : decode cX9_farFrom 37 = .ok (.istore_n 3, 1) := by decide +kernel
theorem dX9_farFrom_38 : decode cX9_farFrom 38 = .ok (.goto (-30), 3) := by decide +kernel
theorem dX9_farFrom_41 : decode cX9_farFrom 41 = .ok (.iload 5, 2) := by decide +kernel
theorem dX9_farFrom_43 : decode cX9_farFrom 43 = .ok (.aload_n 0, 1) := by decide +kernel
theorem dX9_farFrom_44 : decode cX9_farFrom 44 = .ok (.getfield 13, 3) := by decide +kernel
theorem dX9_farFrom_47 : decode cX9_farFrom 47 = .ok (.iload 4, 2) := by decide +kernel
theorem dX9_farFrom_49 : decode cX9_farFrom 49 = .ok (.iaload, 1) := by decide +kernel
theorem dX9_farFrom_50 : decode cX9_farFrom 50 = .ok (.iadd, 1) := by decide +kernel
theorem dX9_farFrom_51 : decode cX9_farFrom 51 = .ok (.istore 5, 2) := by decide +kernel
theorem dX9_farFrom_53 : decode cX9_farFrom 53 = .ok (.aload_n 0, 1) := by decide +kernel
theorem dX9_farFrom_54 : decode cX9_farFrom 54 = .ok (.getfield 7, 3) := by decide +kernel
theorem dX9_farFrom_57 : decode cX9_farFrom 57 = .ok (.iload 4, 2) := by decide +kernel
theorem dX9_farFrom_59 : decode cX9_farFrom 59 = .ok (.iaload, 1) := by decide +kernel
theorem dX9_farFrom_60 : decode cX9_farFrom 60 = .ok (.istore 4, 2) := by decide +kernel
theorem dX9_farFrom_62 : decode cX9_farFrom 62 = .ok (.goto (-54), 3) := by decide +kernel
theorem dX9_farFrom_65 : decode cX9_farFrom 65 = .ok (.iload 5, 2) := by decide +kernel
theorem dX9_farFrom_67 : decode cX9_farFrom 67 = .ok (.ireturn, 1) := by decide +kernel
set_option maxRecDepth 20000 in
theorem ggX9_far_X9_isVillage : GoodIn wsX9_far wsX9_isVillage := goodIn_r _ [5, 6, 7, 8, 4, 9, 21, 22, 23, 24, 25, 26, 27, 28, 29, 30, 31, 32, 33, 34, 35, 36, 37, 38, 39, 40, 41, 42] (by decide +kernel) (by decide +kernel)
set_option maxRecDepth 20000 in
theorem gX9_far_X9_isVillage : GoodIn wsX9_far (wsV RX9 49 RX9 yX9_isVillage wsX9_isVillage) := goodIn_app (goodIn_of _ (by decide +kernel)) ggX9_far_X9_isVillage
set_option maxRecDepth 20000 in
theorem ggX9_far_X9_farFrom : GoodIn wsX9_far wsX9_farFrom := goodIn_r _ [13, 14, 15, 21, 22, 23, 24, 25, 26, 27, 28, 29, 30, 31, 32, 33, 34, 35, 36, 37, 38, 39, 40, 41, 42] (by decide +kernel) (by decide +kernel)
set_option maxRecDepth 20000 in
theorem gX9_far_X9_farFrom : GoodIn wsX9_far (wsV RX9 99 RX9 yX9_farFrom wsX9_farFrom) := goodIn_app (goodIn_of _ (by decide +kernel)) ggX9_far_X9_farFrom
set_option maxRecDepth 20000 in
theorem ggX9_far_X9_refuse : GoodIn wsX9_far wsX9_refuse := goodIn_r _ [19, 20, 21, 22, 23, 24, 25, 26, 27, 28, 29, 30, 31, 32, 33, 34, 35, 36, 37, 38, 39, 40, 41, 42] (by decide +kernel) (by decide +kernel)
set_option maxRecDepth 20000 in
theorem gX9_far_X9_refuse : GoodIn wsX9_far (wsV RX9 55 RX9 yX9_refuse wsX9_refuse) := goodIn_app (goodIn_of _ (by decide +kernel)) ggX9_far_X9_refuse
theorem dX9_far_0 : decode cX9_far 0 = .ok (.aload_n 0, 1) := by decide +kernel
theorem dX9_far_1 : decode cX9_far 1 = .ok (.iload_n 1, 1) := by decide +kernel
theorem dX9_far_2 : decode cX9_far 2 = .ok (.invokevirtual 49, 3) := by decide +kernel
theorem dX9_far_5 : decode cX9_far 5 = .ok (.ifCond .eq 20, 3) := by decide +kernel
theorem dX9_far_8 : decode cX9_far 8 = .ok (.aload_n 0, 1) := by decide +kernel
theorem dX9_far_9 : decode cX9_far 9 = .ok (.iload_n 2, 1) := by decide +kernel
theorem dX9_far_10 : decode cX9_far 10 = .ok (.invokevirtual 49, 3) := by decide +kernel
theorem dX9_far_13 : decode cX9_far 13 = .ok (.ifCond .eq 12, 3) := by decide +kernel
theorem dX9_far_16 : decode cX9_far 16 = .ok (.aload_n 0, 1) := by decide +kernel
theorem dX9_far_17 : decode cX9_far 17 = .ok (.iload_n 1, 1) := by decide +kernel
theorem dX9_far_18 : decode cX9_far 18 = .ok (.iload_n 2, 1) := by decide +kernel
theorem dX9_far_19 : decode cX9_far 19 = .ok (.invokevirtual 99, 3) := by decide +kernel
theorem dX9_far_22 : decode cX9_far 22 = .ok (.goto 7, 3) := by decide +kernel
theorem dX9_far_25 : decode cX9_far 25 = .ok (.aload_n 0, 1) := by decide +kernel
theorem dX9_far_26 : decode cX9_far 26 = .ok (.invokevirtual 55, 3) := by decide +kernel
theorem dX9_far_29 : decode cX9_far 29 = .ok (.ireturn, 1) := by decide +kernel
theorem dX9_findWay_0 : decode cX9_findWay 0 = .ok (.iload_n 1, 1) := by decide +kernel
theorem dX9_findWay_1 : decode cX9_findWay 1 = .ok (.istore_n 3, 1) := by decide +kernel
theorem dX9_findWay_2 : decode cX9_findWay 2 = .ok (.iload_n 2, 1) := by decide +kernel
theorem dX9_findWay_3 : decode cX9_findWay 3 = .ok (.istore 4, 2) := by decide +kernel
theorem dX9_findWay_5 : decode cX9_findWay 5 = .ok (.iconst 0, 1) := by decide +kernel
theorem dX9_findWay_6 : decode cX9_findWay 6 = .ok (.istore 5, 2) := by decide +kernel
theorem dX9_findWay_8 : decode cX9_findWay 8 = .ok (.iconst 0, 1) := by decide +kernel
theorem dX9_findWay_9 : decode cX9_findWay 9 = .ok (.istore 6, 2) := by decide +kernel
theorem dX9_findWay_11 : decode cX9_findWay 11 = .ok (.iload_n 3, 1) := by decide +kernel
theorem dX9_findWay_12 : decode cX9_findWay 12 = .ok (.iload 4, 2) := by decide +kernel
theorem dX9_findWay_14 : decode cX9_findWay 14 = .ok (.if_icmp .eq 57, 3) := by decide +kernel
theorem dX9_findWay_17 : decode cX9_findWay 17 = .ok (.iload_n 3, 1) := by decide +kernel
theorem dX9_findWay_18 : decode cX9_findWay 18 = .ok (.iload 4, 2) := by decide +kernel
theorem dX9_findWay_20 : decode cX9_findWay 20 = .ok (.if_icmp .le 24, 3) := by decide +kernel
theorem dX9_findWay_23 : decode cX9_findWay 23 = .ok (.aload_n 0, 1) := by decide +kernel
theorem dX9_findWay_24 : decode cX9_findWay 24 = .ok (.getfield 26, 3) := by decide +kernel
theorem dX9_findWay_27 : decode cX9_findWay 27 = .ok (.iload 5, 2) := by decide +kernel
theorem dX9_findWay_29 : decode cX9_findWay 29 = .ok (.iload_n 3, 1) := by decide +kernel
theorem dX9_findWay_30 : decode cX9_findWay 30 = .ok (.iastore, 1) := by decide +kernel
theorem dX9_findWay_31 : decode cX9_findWay 31 = .ok (.aload_n 0, 1) := by decide +kernel
theorem dX9_findWay_32 : decode cX9_findWay 32 = .ok (.getfield 7, 3) := by decide +kernel
theorem dX9_findWay_35 : decode cX9_findWay 35 = .ok (.iload_n 3, 1) := by decide +kernel
theorem dX9_findWay_36 : decode cX9_findWay 36 = .ok (.iaload, 1) := by decide +kernel
theorem dX9_findWay_37 : decode cX9_findWay 37 = .ok (.istore_n 3, 1) := by decide +kernel
theorem dX9_findWay_38 : decode cX9_findWay 38 = .ok (.iinc 5 1, 3) := by decide +kernel
theorem dX9_findWay_41 : decode cX9_findWay 41 = .ok (.goto (-30), 3) := by decide +kernel
theorem dX9_findWay_44 : decode cX9_findWay 44 = .ok (.iinc 6 1, 3) := by decide +kernel
theorem dX9_findWay_47 : decode cX9_findWay 47 = .ok (.aload_n 0, 1) := by decide +kernel
theorem dX9_findWay_48 : decode cX9_findWay 48 = .ok (.getfield 26, 3) := by decide +kernel
theorem dX9_findWay_51 : decode cX9_findWay 51 = .ok (.bipush 60, 2) := by decide +kernel
theorem dX9_findWay_53 : decode cX9_findWay 53 = .ok (.iload 6, 2) := by decide +kernel
theorem dX9_findWay_55 : decode cX9_findWay 55 = .ok (.isub, 1) := by decide +kernel
theorem dX9_findWay_56 : decode cX9_findWay 56 = .ok (.iload 4, 2) := by decide +kernel
theorem dX9_findWay_58 : decode cX9_findWay 58 = .ok (.iastore, 1) := by decide +kernel
theorem dX9_findWay_59 : decode cX9_findWay 59 = .ok (.aload_n 0, 1) := by decide +kernel
theorem dX9_findWay_60 : decode cX9_findWay 60 = .ok (.getfield 7, 3) := by decide +kernel
theorem dX9_findWay_63 : decode cX9_findWay 63 = .ok (.iload 4, 2) := by decide +kernel
theorem dX9_findWay_65 : decode cX9_findWay 65 = .ok (.iaload, 1) := by decide +kernel
theorem dX9_findWay_66 : decode cX9_findWay 66 = .ok (.istore 4, 2) := by decide +kernel
theorem dX9_findWay_68 : decode cX9_findWay 68 = .ok (.goto (-57), 3) := by decide +kernel
theorem dX9_findWay_71 : decode cX9_findWay 71 = .ok (.aload_n 0, 1) := by decide +kernel
theorem dX9_findWay_72 : decode cX9_findWay 72 = .ok (.getfield 26, 3) := by decide +kernel
theorem dX9_findWay_75 : decode cX9_findWay 75 = .ok (.iload 5, 2) := by decide +kernel
theorem dX9_findWay_77 : decode cX9_findWay 77 = .ok (.iload_n 3, 1) := by decide +kernel
theorem dX9_findWay_78 : decode cX9_findWay 78 = .ok (.iastore, 1) := by decide +kernel
theorem dX9_findWay_79 : decode cX9_findWay 79 = .ok (.iconst 0, 1) := by decide +kernel
theorem dX9_findWay_80 : decode cX9_findWay 80 = .ok (.istore 7, 2) := by decide +kernel
theorem dX9_findWay_82 : decode cX9_findWay 82 = .ok (.iload 7, 2) := by decide +kernel
theorem dX9_findWay_84 : decode cX9_findWay 84 = .ok (.iload 6, 2) := by decide +kernel
theorem dX9_findWay_86 : decode cX9_findWay 86 = .ok (.if_icmp .ge 34, 3) := by decide +kernel
theorem dX9_findWay_89 : decode cX9_findWay 89 = .ok (.aload_n 0, 1) := by decide +kernel
theorem dX9_findWay_90 : decode cX9_findWay 90 = .ok (.getfield 26, 3) := by decide +kernel
theorem dX9_findWay_93 : decode cX9_findWay 93 = .ok (.iload 5, 2) := by decide +kernel
theorem dX9_findWay_95 : decode cX9_findWay 95 = .ok (.iconst 1, 1) := by decide +kernel
theorem dX9_findWay_96 : decode cX9_findWay 96 = .ok (.iadd, 1) := by decide +kernel
theorem dX9_findWay_97 : decode cX9_findWay 97 = .ok (.iload 7, 2) := by decide +kernel
theorem dX9_findWay_99 : decode cX9_findWay 99 = .ok (.iadd, 1) := by decide +kernel
theorem dX9_findWay_100 : decode cX9_findWay 100 = .ok (.aload_n 0, 1) := by decide +kernel
theorem dX9_findWay_101 : decode cX9_findWay 101 = .ok (.getfield 26, 3) := by decide +kernel
theorem dX9_findWay_104 : decode cX9_findWay 104 = .ok (.bipush 60, 2) := by decide +kernel
theorem dX9_findWay_106 : decode cX9_findWay 106 = .ok (.iload 6, 2) := by decide +kernel
theorem dX9_findWay_108 : decode cX9_findWay 108 = .ok (.isub, 1) := by decide +kernel
theorem dX9_findWay_109 : decode cX9_findWay 109 = .ok (.iload 7, 2) := by decide +kernel
theorem dX9_findWay_111 : decode cX9_findWay 111 = .ok (.iadd, 1) := by decide +kernel
theorem dX9_findWay_112 : decode cX9_findWay 112 = .ok (.iaload, 1) := by decide +kernel
theorem dX9_findWay_113 : decode cX9_findWay 113 = .ok (.iastore, 1) := by decide +kernel
theorem dX9_findWay_114 : decode cX9_findWay 114 = .ok (.iinc 7 1, 3) := by decide +kernel
theorem dX9_findWay_117 : decode cX9_findWay 117 = .ok (.goto (-35), 3) := by decide +kernel
theorem dX9_findWay_120 : decode cX9_findWay 120 = .ok (.aload_n 0, 1) := by decide +kernel
theorem dX9_findWay_121 : decode cX9_findWay 121 = .ok (.iload 5, 2) := by decide +kernel
theorem dX9_findWay_123 : decode cX9_findWay 123 = .ok (.iconst 1, 1) := by decide +kernel
theorem dX9_findWay_124 : decode cX9_findWay 124 = .ok (.iadd, 1) := by decide +kernel
theorem dX9_findWay_125 : decode cX9_findWay 125 = .ok (.iload 6, 2) := by decide +kernel
theorem dX9_findWay_127 : decode cX9_findWay 127 = .ok (.iadd, 1) := by decide +kernel
theorem dX9_findWay_128 : decode cX9_findWay 128 = .ok (.putfield 102, 3) := by decide +kernel
theorem dX9_findWay_131 : decode cX9_findWay 131 = .ok (.return_, 1) := by decide +kernel
set_option maxRecDepth 20000 in
theorem ggX9_way_X9_isVillage : GoodIn wsX9_way wsX9_isVillage := goodIn_r _ [7, 8, 9, 10, 6, 11, 22, 23, 24, 25, 26, 27, 28, 29, 30, 31, 32, 33, 34, 35, 36, 37, 38, 39, 40, 41, 42, 43] (by decide +kernel) (by decide +kernel)
set_option maxRecDepth 20000 in
theorem gX9_way_X9_isVillage : GoodIn wsX9_way (wsV RX9 49 RX9 yX9_isVillage wsX9_isVillage) := goodIn_app (goodIn_of _ (by decide +kernel)) ggX9_way_X9_isVillage
set_option maxRecDepth 20000 in
theorem ggX9_way_X9_refuse : GoodIn wsX9_way wsX9_refuse := goodIn_r _ [15, 16, 22, 23, 24, 25, 26, 27, 28, 29, 30, 31, 32, 33, 34, 35, 36, 37, 38, 39, 40, 41, 42, 43] (by decide +kernel) (by decide +kernel)
set_option maxRecDepth 20000 in
theorem gX9_way_X9_refuse : GoodIn wsX9_way (wsV RX9 55 RX9 yX9_refuse wsX9_refuse) := goodIn_app (goodIn_of _ (by decide +kernel)) ggX9_way_X9_refuse
set_option maxRecDepth 20000 in
theorem ggX9_way_X9_findWay : GoodIn wsX9_way wsX9_findWay := goodIn_r _ [20, 2, 21, 1, 22, 23, 24, 25, 26, 27, 28, 29, 30, 31, 32, 33, 34, 35, 36, 37, 38, 39, 40, 41, 42, 43] (by decide +kernel) (by decide +kernel)
set_option maxRecDepth 20000 in
theorem gX9_way_X9_findWay : GoodIn wsX9_way (wsV RX9 105 RX9 yX9_findWay wsX9_findWay) := goodIn_app (goodIn_of _ (by decide +kernel)) ggX9_way_X9_findWay
theorem dX9_way_0 : decode cX9_way 0 = .ok (.aload_n 0, 1) := by decide +kernel
theorem dX9_way_1 : decode cX9_way 1 = .ok (.iload_n 1, 1) := by decide +kernel
theorem dX9_way_2 : decode cX9_way 2 = .ok (.invokevirtual 49, 3) := by decide +kernel
theorem dX9_way_5 : decode cX9_way 5 = .ok (.ifCond .eq 16, 3) := by decide +kernel
theorem dX9_way_8 : decode cX9_way 8 = .ok (.aload_n 0, 1) := by decide +kernel
theorem dX9_way_9 : decode cX9_way 9 = .ok (.iload_n 2, 1) := by decide +kernel
theorem dX9_way_10 : decode cX9_way 10 = .ok (.invokevirtual 49, 3) := by decide +kernel
theorem dX9_way_13 : decode cX9_way 13 = .ok (.ifCond .eq 8, 3) := by decide +kernel
theorem dX9_way_16 : decode cX9_way 16 = .ok (.iload_n 3, 1) := by decide +kernel
theorem dX9_way_17 : decode cX9_way 17 = .ok (.iconst (-1), 1) := by decide +kernel
theorem dX9_way_18 : decode cX9_way 18 = .ok (.if_icmp .ge 11, 3) := by decide +kernel
theorem dX9_way_21 : decode cX9_way 21 = .ok (.aload_n 0, 1) := by decide +kernel
theorem dX9_way_22 : decode cX9_way 22 = .ok (.invokevirtual 55, 3) := by decide +kernel
theorem dX9_way_25 : decode cX9_way 25 = .ok (.pop, 1) := by decide +kernel
theorem dX9_way_26 : decode cX9_way 26 = .ok (.bipush (-10), 2) := by decide +kernel
theorem dX9_way_28 : decode cX9_way 28 = .ok (.ireturn, 1) := by decide +kernel
theorem dX9_way_29 : decode cX9_way 29 = .ok (.aload_n 0, 1) := by decide +kernel
theorem dX9_way_30 : decode cX9_way 30 = .ok (.iload_n 1, 1) := by decide +kernel
theorem dX9_way_31 : decode cX9_way 31 = .ok (.iload_n 2, 1) := by decide +kernel
theorem dX9_way_32 : decode cX9_way 32 = .ok (.invokevirtual 105, 3) := by decide +kernel
theorem dX9_way_35 : decode cX9_way 35 = .ok (.iload_n 3, 1) := by decide +kernel
theorem dX9_way_36 : decode cX9_way 36 = .ok (.iconst (-1), 1) := by decide +kernel
theorem dX9_way_37 : decode cX9_way 37 = .ok (.if_icmp .ne 10, 3) := by decide +kernel
theorem dX9_way_40 : decode cX9_way 40 = .ok (.aload_n 0, 1) := by decide +kernel
theorem dX9_way_41 : decode cX9_way 41 = .ok (.getfield 102, 3) := by decide +kernel
theorem dX9_way_44 : decode cX9_way 44 = .ok (.goto 22, 3) := by decide +kernel
theorem dX9_way_47 : decode cX9_way 47 = .ok (.iload_n 3, 1) := by decide +kernel
theorem dX9_way_48 : decode cX9_way 48 = .ok (.aload_n 0, 1) := by decide +kernel
theorem dX9_way_49 : decode cX9_way 49 = .ok (.getfield 102, 3) := by decide +kernel
theorem dX9_way_52 : decode cX9_way 52 = .ok (.if_icmp .ge 12, 3) := by decide +kernel
theorem dX9_way_55 : decode cX9_way 55 = .ok (.aload_n 0, 1) := by decide +kernel
theorem dX9_way_56 : decode cX9_way 56 = .ok (.getfield 26, 3) := by decide +kernel
theorem dX9_way_59 : decode cX9_way 59 = .ok (.iload_n 3, 1) := by decide +kernel
theorem dX9_way_60 : decode cX9_way 60 = .ok (.iaload, 1) := by decide +kernel
theorem dX9_way_61 : decode cX9_way 61 = .ok (.goto 5, 3) := by decide +kernel
theorem dX9_way_64 : decode cX9_way 64 = .ok (.bipush (-5), 2) := by decide +kernel
theorem dX9_way_66 : decode cX9_way 66 = .ok (.ireturn, 1) := by decide +kernel
set_option maxRecDepth 20000 in
theorem ggX9_farthest_X9_farFrom : GoodIn wsX9_farthest wsX9_farFrom := goodIn_r _ [6, 7, 8, 9, 10, 11, 12, 13, 14, 15, 16, 17, 18, 19, 20, 21, 22, 23, 24, 25, 26, 27, 28, 29, 30] (by decide +kernel) (by decide +kernel)
set_option maxRecDepth 20000 in
theorem gX9_farthest_X9_farFrom : GoodIn wsX9_farthest (wsV RX9 99 RX9 yX9_farFrom wsX9_farFrom) := goodIn_app (goodIn_of _ (by decide +kernel)) ggX9_farthest_X9_farFrom
theorem dX9_farthest_0 : decode cX9_farthest 0 = .ok (.iconst 0, 1) := by decide +kernel
theorem dX9_farthest_1 : decode cX9_farthest 1 = .ok (.istore_n 2, 1) := by decide +kernel
theorem dX9_farthest_2 : decode cX9_farthest 2 = .ok (.iconst 0, 1) := by decide +kernel
theorem dX9_farthest_3 : decode cX9_farthest 3 = .ok (.istore_n 3, 1) := by decide +kernel
theorem dX9_farthest_4 : decode cX9_farthest 4 = .ok (.iload_n 3, 1) := by decide +kernel
theorem dX9_farthest_5 : decode cX9_farthest 5 = .ok (.aload_n 0, 1) := by decide +kernel
theorem dX9_farthest_6 : decode cX9_farthest 6 = .ok (.getfield 35, 3) := by decide +kernel
theorem dX9_farthest_9 : decode cX9_farthest 9 = .ok (.if_icmp .ge 30, 3) := by decide +kernel
theorem dX9_farthest_12 : decode cX9_farthest 12 = .ok (.aload_n 0, 1) := by decide +kernel
theorem dX9_farthest_13 : decode cX9_farthest 13 = .ok (.iload_n 1, 1) := by decide +kernel
theorem dX9_farthest_14 : decode cX9_farthest 14 = .ok (.iload_n 3, 1) := by decide +kernel
theorem dX9_farthest_15 : decode cX9_farthest 15 = .ok (.invokevirtual 99, 3) := by decide +kernel
theorem dX9_farthest_18 : decode cX9_farthest 18 = .ok (.istore 4, 2) := by decide +kernel
theorem dX9_farthest_20 : decode cX9_farthest 20 = .ok (.iload 4, 2) := by decide +kernel
theorem dX9_farthest_22 : decode cX9_farthest 22 = .ok (.iload_n 2, 1) := by decide +kernel
theorem dX9_farthest_23 : decode cX9_farthest 23 = .ok (.if_icmp .le 8, 3) := by decide +kernel
theorem dX9_farthest_26 : decode cX9_farthest 26 = .ok (.iload 4, 2) := by decide +kernel
theorem dX9_farthest_28 : decode cX9_farthest 28 = .ok (.goto 4, 3) := by decide +kernel
theorem dX9_farthest_31 : decode cX9_farthest 31 = .ok (.iload_n 2, 1) := by decide +kernel
theorem dX9_farthest_32 : decode cX9_farthest 32 = .ok (.istore_n 2, 1) := by decide +kernel
theorem dX9_farthest_33 : decode cX9_farthest 33 = .ok (.iinc 3 1, 3) := by decide +kernel
theorem dX9_farthest_36 : decode cX9_farthest 36 = .ok (.goto (-32), 3) := by decide +kernel
theorem dX9_farthest_39 : decode cX9_farthest 39 = .ok (.iload_n 2, 1) := by decide +kernel
theorem dX9_farthest_40 : decode cX9_farthest 40 = .ok (.ireturn, 1) := by decide +kernel
set_option maxRecDepth 20000 in
theorem ggX9_longest_X9_in : GoodIn wsX9_longest wsX9_in := goodIn_r _ [6] (by decide +kernel) (by decide +kernel)
set_option maxRecDepth 20000 in
theorem gX9_longest_X9_in : GoodIn wsX9_longest (va_wsS RX9 39 yX9_in wsX9_in) := goodIn_app (goodIn_of _ (by decide +kernel)) ggX9_longest_X9_in
set_option maxRecDepth 20000 in
theorem ggX9_longest_X9_refuse : GoodIn wsX9_longest wsX9_refuse := goodIn_r _ [10, 11, 22, 23, 24, 25, 26, 27, 28, 29, 30, 31, 32, 33, 34, 35, 36, 37, 38, 39, 40, 41, 42, 43] (by decide +kernel) (by decide +kernel)
set_option maxRecDepth 20000 in
theorem gX9_longest_X9_refuse : GoodIn wsX9_longest (wsV RX9 55 RX9 yX9_refuse wsX9_refuse) := goodIn_app (goodIn_of _ (by decide +kernel)) ggX9_longest_X9_refuse
set_option maxRecDepth 20000 in
theorem ggX9_longest_X9_farthest : GoodIn wsX9_longest wsX9_farthest := goodIn_r _ [15, 2, 16, 17, 18, 5, 19, 20, 21, 22, 23, 24, 25, 26, 27, 28, 29, 30, 31, 32, 33, 34, 35, 36, 37, 38, 39, 40, 41, 42, 43] (by decide +kernel) (by decide +kernel)
set_option maxRecDepth 20000 in
theorem gX9_longest_X9_farthest : GoodIn wsX9_longest (wsV RX9 111 RX9 yX9_farthest wsX9_farthest) := goodIn_app (goodIn_of _ (by decide +kernel)) ggX9_longest_X9_farthest
set_option maxRecDepth 20000 in
theorem ggX9_longest_X9_farFrom : GoodIn wsX9_longest wsX9_farFrom := goodIn_r _ [19, 20, 21, 22, 23, 24, 25, 26, 27, 28, 29, 30, 31, 32, 33, 34, 35, 36, 37, 38, 39, 40, 41, 42, 43] (by decide +kernel) (by decide +kernel)
set_option maxRecDepth 20000 in
theorem gX9_longest_X9_farFrom : GoodIn wsX9_longest (wsV RX9 99 RX9 yX9_farFrom wsX9_farFrom) := goodIn_app (goodIn_of _ (by decide +kernel)) ggX9_longest_X9_farFrom
theorem dX9_longest_0 : decode cX9_longest 0 = .ok (.iload_n 1, 1) := by decide +kernel
theorem dX9_longest_1 : decode cX9_longest 1 = .ok (.i2l, 1) := by decide +kernel
theorem dX9_longest_2 : decode cX9_longest 2 = .ok (.lconst 0, 1) := by decide +kernel
theorem dX9_longest_3 : decode cX9_longest 3 = .ok (.ldc2_w 109, 3) := by decide +kernel
theorem dX9_longest_6 : decode cX9_longest 6 = .ok (.invokestatic 39, 3) := by decide +kernel
theorem dX9_longest_9 : decode cX9_longest 9 = .ok (.ifCond .ne 8, 3) := by decide +kernel
theorem dX9_longest_12 : decode cX9_longest 12 = .ok (.aload_n 0, 1) := by decide +kernel
theorem dX9_longest_13 : decode cX9_longest 13 = .ok (.invokevirtual 55, 3) := by decide +kernel
theorem dX9_longest_16 : decode cX9_longest 16 = .ok (.ireturn, 1) := by decide +kernel
theorem dX9_longest_17 : decode cX9_longest 17 = .ok (.iconst 0, 1) := by decide +kernel
theorem dX9_longest_18 : decode cX9_longest 18 = .ok (.istore_n 2, 1) := by decide +kernel
theorem dX9_longest_19 : decode cX9_longest 19 = .ok (.iconst 0, 1) := by decide +kernel
theorem dX9_longest_20 : decode cX9_longest 20 = .ok (.istore_n 3, 1) := by decide +kernel
theorem dX9_longest_21 : decode cX9_longest 21 = .ok (.iconst 0, 1) := by decide +kernel
theorem dX9_longest_22 : decode cX9_longest 22 = .ok (.istore 4, 2) := by decide +kernel
theorem dX9_longest_24 : decode cX9_longest 24 = .ok (.iload 4, 2) := by decide +kernel
theorem dX9_longest_26 : decode cX9_longest 26 = .ok (.aload_n 0, 1) := by decide +kernel
theorem dX9_longest_27 : decode cX9_longest 27 = .ok (.getfield 35, 3) := by decide +kernel
theorem dX9_longest_30 : decode cX9_longest 30 = .ok (.if_icmp .ge 43, 3) := by decide +kernel
theorem dX9_longest_33 : decode cX9_longest 33 = .ok (.aload_n 0, 1) := by decide +kernel
theorem dX9_longest_34 : decode cX9_longest 34 = .ok (.iload 4, 2) := by decide +kernel
theorem dX9_longest_36 : decode cX9_longest 36 = .ok (.invokevirtual 111, 3) := by decide +kernel
theorem dX9_longest_39 : decode cX9_longest 39 = .ok (.istore 5, 2) := by decide +kernel
theorem dX9_longest_41 : decode cX9_longest 41 = .ok (.iload 5, 2) := by decide +kernel
theorem dX9_longest_43 : decode cX9_longest 43 = .ok (.iload_n 2, 1) := by decide +kernel
theorem dX9_longest_44 : decode cX9_longest 44 = .ok (.if_icmp .le 8, 3) := by decide +kernel
theorem dX9_longest_47 : decode cX9_longest 47 = .ok (.iload 4, 2) := by decide +kernel
theorem dX9_longest_49 : decode cX9_longest 49 = .ok (.goto 4, 3) := by decide +kernel
theorem dX9_longest_52 : decode cX9_longest 52 = .ok (.iload_n 3, 1) := by decide +kernel
theorem dX9_longest_53 : decode cX9_longest 53 = .ok (.istore_n 3, 1) := by decide +kernel
theorem dX9_longest_54 : decode cX9_longest 54 = .ok (.iload 5, 2) := by decide +kernel
theorem dX9_longest_56 : decode cX9_longest 56 = .ok (.iload_n 2, 1) := by decide +kernel
theorem dX9_longest_57 : decode cX9_longest 57 = .ok (.if_icmp .le 8, 3) := by decide +kernel
theorem dX9_longest_60 : decode cX9_longest 60 = .ok (.iload 5, 2) := by decide +kernel
theorem dX9_longest_62 : decode cX9_longest 62 = .ok (.goto 4, 3) := by decide +kernel
theorem dX9_longest_65 : decode cX9_longest 65 = .ok (.iload_n 2, 1) := by decide +kernel
theorem dX9_longest_66 : decode cX9_longest 66 = .ok (.istore_n 2, 1) := by decide +kernel
theorem dX9_longest_67 : decode cX9_longest 67 = .ok (.iinc 4 1, 3) := by decide +kernel
theorem dX9_longest_70 : decode cX9_longest 70 = .ok (.goto (-46), 3) := by decide +kernel
theorem dX9_longest_73 : decode cX9_longest 73 = .ok (.iconst 0, 1) := by decide +kernel
theorem dX9_longest_74 : decode cX9_longest 74 = .ok (.istore 4, 2) := by decide +kernel
theorem dX9_longest_76 : decode cX9_longest 76 = .ok (.aload_n 0, 1) := by decide +kernel
theorem dX9_longest_77 : decode cX9_longest 77 = .ok (.iload_n 3, 1) := by decide +kernel
theorem dX9_longest_78 : decode cX9_longest 78 = .ok (.iload 4, 2) := by decide +kernel
theorem dX9_longest_80 : decode cX9_longest 80 = .ok (.invokevirtual 99, 3) := by decide +kernel
theorem dX9_longest_83 : decode cX9_longest 83 = .ok (.iload_n 2, 1) := by decide +kernel
theorem dX9_longest_84 : decode cX9_longest 84 = .ok (.if_icmp .eq 9, 3) := by decide +kernel
theorem dX9_longest_87 : decode cX9_longest 87 = .ok (.iinc 4 1, 3) := by decide +kernel
theorem dX9_longest_90 : decode cX9_longest 90 = .ok (.goto (-14), 3) := by decide +kernel
theorem dX9_longest_93 : decode cX9_longest 93 = .ok (.iload_n 1, 1) := by decide +kernel
theorem dX9_longest_94 : decode cX9_longest 94 = .ok (.ifCond .ne 7, 3) := by decide +kernel
theorem dX9_longest_97 : decode cX9_longest 97 = .ok (.iload_n 2, 1) := by decide +kernel
theorem dX9_longest_98 : decode cX9_longest 98 = .ok (.goto 14, 3) := by decide +kernel
theorem dX9_longest_101 : decode cX9_longest 101 = .ok (.iload_n 1, 1) := by decide +kernel
theorem dX9_longest_102 : decode cX9_longest 102 = .ok (.iconst 1, 1) := by decide +kernel
theorem dX9_longest_103 : decode cX9_longest 103 = .ok (.if_icmp .ne 7, 3) := by decide +kernel
theorem dX9_longest_106 : decode cX9_longest 106 = .ok (.iload_n 3, 1) := by decide +kernel
theorem dX9_longest_107 : decode cX9_longest 107 = .ok (.goto 5, 3) := by decide +kernel
theorem dX9_longest_110 : decode cX9_longest 110 = .ok (.iload 4, 2) := by decide +kernel
theorem dX9_longest_112 : decode cX9_longest 112 = .ok (.ireturn, 1) := by decide +kernel
set_option maxRecDepth 20000 in
theorem ggX9_sumFrom_X9_farFrom : GoodIn wsX9_sumFrom wsX9_farFrom := goodIn_r _ [6, 7, 8, 9, 10, 11, 12, 13, 14, 15, 16, 17, 18, 19, 20, 21, 22, 23, 24, 25, 26, 27, 28, 29, 30] (by decide +kernel) (by decide +kernel)
set_option maxRecDepth 20000 in
theorem gX9_sumFrom_X9_farFrom : GoodIn wsX9_sumFrom (wsV RX9 99 RX9 yX9_farFrom wsX9_farFrom) := goodIn_app (goodIn_of _ (by decide +kernel)) ggX9_sumFrom_X9_farFrom
theorem dX9_sumFrom_0 : decode cX9_sumFrom 0 = .ok (.iconst 0, 1) := by decide +kernel
theorem dX9_sumFrom_1 : decode cX9_sumFrom 1 = .ok (.istore_n 2, 1) := by decide +kernel
theorem dX9_sumFrom_2 : decode cX9_sumFrom 2 = .ok (.iconst 0, 1) := by decide +kernel
theorem dX9_sumFrom_3 : decode cX9_sumFrom 3 = .ok (.istore_n 3, 1) := by decide +kernel
theorem dX9_sumFrom_4 : decode cX9_sumFrom 4 = .ok (.iload_n 3, 1) := by decide +kernel
theorem dX9_sumFrom_5 : decode cX9_sumFrom 5 = .ok (.aload_n 0, 1) := by decide +kernel
theorem dX9_sumFrom_6 : decode cX9_sumFrom 6 = .ok (.getfield 35, 3) := by decide +kernel
theorem dX9_sumFrom_9 : decode cX9_sumFrom 9 = .ok (.if_icmp .ge 18, 3) := by decide +kernel
theorem dX9_sumFrom_12 : decode cX9_sumFrom 12 = .ok (.iload_n 2, 1) := by decide +kernel
theorem dX9_sumFrom_13 : decode cX9_sumFrom 13 = .ok (.aload_n 0, 1) := by decide +kernel
theorem dX9_sumFrom_14 : decode cX9_sumFrom 14 = .ok (.iload_n 3, 1) := by decide +kernel
theorem dX9_sumFrom_15 : decode cX9_sumFrom 15 = .ok (.iload_n 1, 1) := by decide +kernel
theorem dX9_sumFrom_16 : decode cX9_sumFrom 16 = .ok (.invokevirtual 99, 3) := by decide +kernel
theorem dX9_sumFrom_19 : decode cX9_sumFrom 19 = .ok (.iadd, 1) := by decide +kernel
theorem dX9_sumFrom_20 : decode cX9_sumFrom 20 = .ok (.istore_n 2, 1) := by decide +kernel
theorem dX9_sumFrom_21 : decode cX9_sumFrom 21 = .ok (.iinc 3 1, 3) := by decide +kernel
theorem dX9_sumFrom_24 : decode cX9_sumFrom 24 = .ok (.goto (-20), 3) := by decide +kernel
theorem dX9_sumFrom_27 : decode cX9_sumFrom 27 = .ok (.iload_n 2, 1) := by decide +kernel
theorem dX9_sumFrom_28 : decode cX9_sumFrom 28 = .ok (.ireturn, 1) := by decide +kernel
theorem dX9_restOf_0 : decode cX9_restOf 0 = .ok (.aload_n 0, 1) := by decide +kernel
theorem dX9_restOf_1 : decode cX9_restOf 1 = .ok (.getfield 35, 3) := by decide +kernel
theorem dX9_restOf_4 : decode cX9_restOf 4 = .ok (.iconst 1, 1) := by decide +kernel
theorem dX9_restOf_5 : decode cX9_restOf 5 = .ok (.isub, 1) := by decide +kernel
theorem dX9_restOf_6 : decode cX9_restOf 6 = .ok (.istore_n 2, 1) := by decide +kernel
theorem dX9_restOf_7 : decode cX9_restOf 7 = .ok (.iload_n 2, 1) := by decide +kernel
theorem dX9_restOf_8 : decode cX9_restOf 8 = .ok (.ifCond .lt 63, 3) := by decide +kernel
theorem dX9_restOf_11 : decode cX9_restOf 11 = .ok (.aload_n 0, 1) := by decide +kernel
theorem dX9_restOf_12 : decode cX9_restOf 12 = .ok (.getfield 29, 3) := by decide +kernel
theorem dX9_restOf_15 : decode cX9_restOf 15 = .ok (.iload_n 2, 1) := by decide +kernel
theorem dX9_restOf_16 : decode cX9_restOf 16 = .ok (.iconst 1, 1) := by decide +kernel
theorem dX9_restOf_17 : decode cX9_restOf 17 = .ok (.iastore, 1) := by decide +kernel
theorem dX9_restOf_18 : decode cX9_restOf 18 = .ok (.iload_n 2, 1) := by decide +kernel
theorem dX9_restOf_19 : decode cX9_restOf 19 = .ok (.iconst 1, 1) := by decide +kernel
theorem dX9_restOf_20 : decode cX9_restOf 20 = .ok (.iadd, 1) := by decide +kernel
theorem dX9_restOf_21 : decode cX9_restOf 21 = .ok (.istore_n 3, 1) := by decide +kernel
theorem dX9_restOf_22 : decode cX9_restOf 22 = .ok (.iload_n 3, 1) := by decide +kernel
theorem dX9_restOf_23 : decode cX9_restOf 23 = .ok (.aload_n 0, 1) := by decide +kernel
theorem dX9_restOf_24 : decode cX9_restOf 24 = .ok (.getfield 35, 3) := by decide +kernel
theorem dX9_restOf_27 : decode cX9_restOf 27 = .ok (.if_icmp .ge 38, 3) := by decide +kernel
theorem dX9_restOf_30 : decode cX9_restOf 30 = .ok (.aload_n 0, 1) := by decide +kernel
theorem dX9_restOf_31 : decode cX9_restOf 31 = .ok (.getfield 29, 3) := by decide +kernel
theorem dX9_restOf_34 : decode cX9_restOf 34 = .ok (.iload_n 2, 1) := by decide +kernel
theorem dX9_restOf_35 : decode cX9_restOf 35 = .ok (.dup2, 1) := by decide +kernel
theorem dX9_restOf_36 : decode cX9_restOf 36 = .ok (.iaload, 1) := by decide +kernel
theorem dX9_restOf_37 : decode cX9_restOf 37 = .ok (.aload_n 0, 1) := by decide +kernel
theorem dX9_restOf_38 : decode cX9_restOf 38 = .ok (.getfield 7, 3) := by decide +kernel
theorem dX9_restOf_41 : decode cX9_restOf 41 = .ok (.iload_n 3, 1) := by decide +kernel
theorem dX9_restOf_42 : decode cX9_restOf 42 = .ok (.iaload, 1) := by decide +kernel
theorem dX9_restOf_43 : decode cX9_restOf 43 = .ok (.iload_n 2, 1) := by decide +kernel
theorem dX9_restOf_44 : decode cX9_restOf 44 = .ok (.if_icmp .ne 12, 3) := by decide +kernel
theorem dX9_restOf_47 : decode cX9_restOf 47 = .ok (.aload_n 0, 1) := by decide +kernel
theorem dX9_restOf_48 : decode cX9_restOf 48 = .ok (.getfield 29, 3) := by decide +kernel
theorem dX9_restOf_51 : decode cX9_restOf 51 = .ok (.iload_n 3, 1) := by decide +kernel
theorem dX9_restOf_52 : decode cX9_restOf 52 = .ok (.iaload, 1) := by decide +kernel
theorem dX9_restOf_53 : decode cX9_restOf 53 = .ok (.goto 4, 3) := by decide +kernel
theorem dX9_restOf_56 : decode cX9_restOf 56 = .ok (.iconst 0, 1) := by decide +kernel
theorem dX9_restOf_57 : decode cX9_restOf 57 = .ok (.iadd, 1) := by decide +kernel
theorem dX9_restOf_58 : decode cX9_restOf 58 = .ok (.iastore, 1) := by decide +kernel
theorem dX9_restOf_59 : decode cX9_restOf 59 = .ok (.iinc 3 1, 3) := by decide +kernel
theorem dX9_restOf_62 : decode cX9_restOf 62 = .ok (.goto (-40), 3) := by decide +kernel
theorem dX9_restOf_65 : decode cX9_restOf 65 = .ok (.iinc 2 (-1), 3) := by decide +kernel
theorem dX9_restOf_68 : decode cX9_restOf 68 = .ok (.goto (-61), 3) := by decide +kernel
theorem dX9_restOf_71 : decode cX9_restOf 71 = .ok (.aload_n 0, 1) := by decide +kernel
theorem dX9_restOf_72 : decode cX9_restOf 72 = .ok (.getfield 35, 3) := by decide +kernel
theorem dX9_restOf_75 : decode cX9_restOf 75 = .ok (.aload_n 0, 1) := by decide +kernel
theorem dX9_restOf_76 : decode cX9_restOf 76 = .ok (.getfield 29, 3) := by decide +kernel
theorem dX9_restOf_79 : decode cX9_restOf 79 = .ok (.iload_n 1, 1) := by decide +kernel
theorem dX9_restOf_80 : decode cX9_restOf 80 = .ok (.iaload, 1) := by decide +kernel
theorem dX9_restOf_81 : decode cX9_restOf 81 = .ok (.isub, 1) := by decide +kernel
theorem dX9_restOf_82 : decode cX9_restOf 82 = .ok (.istore_n 2, 1) := by decide +kernel
theorem dX9_restOf_83 : decode cX9_restOf 83 = .ok (.iload_n 1, 1) := by decide +kernel
theorem dX9_restOf_84 : decode cX9_restOf 84 = .ok (.iconst 1, 1) := by decide +kernel
theorem dX9_restOf_85 : decode cX9_restOf 85 = .ok (.iadd, 1) := by decide +kernel
theorem dX9_restOf_86 : decode cX9_restOf 86 = .ok (.istore_n 3, 1) := by decide +kernel
theorem dX9_restOf_87 : decode cX9_restOf 87 = .ok (.iload_n 3, 1) := by decide +kernel
theorem dX9_restOf_88 : decode cX9_restOf 88 = .ok (.aload_n 0, 1) := by decide +kernel
theorem dX9_restOf_89 : decode cX9_restOf 89 = .ok (.getfield 35, 3) := by decide +kernel
theorem dX9_restOf_92 : decode cX9_restOf 92 = .ok (.if_icmp .ge 40, 3) := by decide +kernel
theorem dX9_restOf_95 : decode cX9_restOf 95 = .ok (.aload_n 0, 1) := by decide +kernel
theorem dX9_restOf_96 : decode cX9_restOf 96 = .ok (.getfield 7, 3) := by decide +kernel
theorem dX9_restOf_99 : decode cX9_restOf 99 = .ok (.iload_n 3, 1) := by decide +kernel
theorem dX9_restOf_100 : decode cX9_restOf 100 = .ok (.iaload, 1) := by decide +kernel
theorem dX9_restOf_101 : decode cX9_restOf 101 = .ok (.iload_n 1, 1) := by decide +kernel
theorem dX9_restOf_102 : decode cX9_restOf 102 = .ok (.if_icmp .ne 22, 3) := by decide +kernel
theorem dX9_restOf_105 : decode cX9_restOf 105 = .ok (.aload_n 0, 1) := by decide +kernel
theorem dX9_restOf_106 : decode cX9_restOf 106 = .ok (.getfield 29, 3) := by decide +kernel
theorem dX9_restOf_109 : decode cX9_restOf 109 = .ok (.iload_n 3, 1) := by decide +kernel
theorem dX9_restOf_110 : decode cX9_restOf 110 = .ok (.iaload, 1) := by decide +kernel
theorem dX9_restOf_111 : decode cX9_restOf 111 = .ok (.iload_n 2, 1) := by decide +kernel
theorem dX9_restOf_112 : decode cX9_restOf 112 = .ok (.if_icmp .le 12, 3) := by decide +kernel
theorem dX9_restOf_115 : decode cX9_restOf 115 = .ok (.aload_n 0, 1) := by decide +kernel
theorem dX9_restOf_116 : decode cX9_restOf 116 = .ok (.getfield 29, 3) := by decide +kernel
theorem dX9_restOf_119 : decode cX9_restOf 119 = .ok (.iload_n 3, 1) := by decide +kernel
theorem dX9_restOf_120 : decode cX9_restOf 120 = .ok (.iaload, 1) := by decide +kernel
theorem dX9_restOf_121 : decode cX9_restOf 121 = .ok (.goto 4, 3) := by decide +kernel
theorem dX9_restOf_124 : decode cX9_restOf 124 = .ok (.iload_n 2, 1) := by decide +kernel
theorem dX9_restOf_125 : decode cX9_restOf 125 = .ok (.istore_n 2, 1) := by decide +kernel
theorem dX9_restOf_126 : decode cX9_restOf 126 = .ok (.iinc 3 1, 3) := by decide +kernel
theorem dX9_restOf_129 : decode cX9_restOf 129 = .ok (.goto (-42), 3) := by decide +kernel
theorem dX9_restOf_132 : decode cX9_restOf 132 = .ok (.iload_n 2, 1) := by decide +kernel
theorem dX9_restOf_133 : decode cX9_restOf 133 = .ok (.ireturn, 1) := by decide +kernel
set_option maxRecDepth 20000 in
theorem ggX9_middle_X9_in : GoodIn wsX9_middle wsX9_in := goodIn_r _ [6] (by decide +kernel) (by decide +kernel)
set_option maxRecDepth 20000 in
theorem gX9_middle_X9_in : GoodIn wsX9_middle (va_wsS RX9 39 yX9_in wsX9_in) := goodIn_app (goodIn_of _ (by decide +kernel)) ggX9_middle_X9_in
set_option maxRecDepth 20000 in
theorem ggX9_middle_X9_refuse : GoodIn wsX9_middle wsX9_refuse := goodIn_r _ [10, 11, 31, 32, 33, 34, 35, 36, 37, 38, 39, 40, 41, 42, 43, 44, 45, 46, 47, 48, 49, 50, 51, 52] (by decide +kernel) (by decide +kernel)
set_option maxRecDepth 20000 in
theorem gX9_middle_X9_refuse : GoodIn wsX9_middle (wsV RX9 55 RX9 yX9_refuse wsX9_refuse) := goodIn_app (goodIn_of _ (by decide +kernel)) ggX9_middle_X9_refuse
set_option maxRecDepth 20000 in
theorem ggX9_middle_X9_farthest : GoodIn wsX9_middle wsX9_farthest := goodIn_r _ [15, 2, 16, 17, 18, 5, 19, 20, 21, 31, 32, 33, 34, 35, 36, 37, 38, 39, 40, 41, 42, 43, 44, 45, 46, 47, 48, 49, 50, 51, 52] (by decide +kernel) (by decide +kernel)
set_option maxRecDepth 20000 in
theorem gX9_middle_X9_farthest : GoodIn wsX9_middle (wsV RX9 111 RX9 yX9_farthest wsX9_farthest) := goodIn_app (goodIn_of _ (by decide +kernel)) ggX9_middle_X9_farthest
set_option maxRecDepth 20000 in
theorem ggX9_middle_X9_sumFrom : GoodIn wsX9_middle wsX9_sumFrom := goodIn_r _ [25, 2, 16, 17, 18, 5, 19, 20, 21, 31, 32, 33, 34, 35, 36, 37, 38, 39, 40, 41, 42, 43, 44, 45, 46, 47, 48, 49, 50, 51, 52] (by decide +kernel) (by decide +kernel)
set_option maxRecDepth 20000 in
theorem gX9_middle_X9_sumFrom : GoodIn wsX9_middle (wsV RX9 115 RX9 yX9_sumFrom wsX9_sumFrom) := goodIn_app (goodIn_of _ (by decide +kernel)) ggX9_middle_X9_sumFrom
set_option maxRecDepth 20000 in
theorem ggX9_middle_X9_restOf : GoodIn wsX9_middle wsX9_restOf := goodIn_r _ [29, 2, 30, 21, 31, 32, 33, 34, 35, 36, 37, 38, 39, 40, 41, 42, 43, 44, 45, 46, 47, 48, 49, 50, 51, 52] (by decide +kernel) (by decide +kernel)
set_option maxRecDepth 20000 in
theorem gX9_middle_X9_restOf : GoodIn wsX9_middle (wsV RX9 118 RX9 yX9_restOf wsX9_restOf) := goodIn_app (goodIn_of _ (by decide +kernel)) ggX9_middle_X9_restOf
theorem dX9_middle_0 : decode cX9_middle 0 = .ok (.iload_n 1, 1) := by decide +kernel
theorem dX9_middle_1 : decode cX9_middle 1 = .ok (.i2l, 1) := by decide +kernel
theorem dX9_middle_2 : decode cX9_middle 2 = .ok (.lconst 0, 1) := by decide +kernel
theorem dX9_middle_3 : decode cX9_middle 3 = .ok (.ldc2_w 109, 3) := by decide +kernel
theorem dX9_middle_6 : decode cX9_middle 6 = .ok (.invokestatic 39, 3) := by decide +kernel
theorem dX9_middle_9 : decode cX9_middle 9 = .ok (.ifCond .ne 8, 3) := by decide +kernel
theorem dX9_middle_12 : decode cX9_middle 12 = .ok (.aload_n 0, 1) := by decide +kernel
theorem dX9_middle_13 : decode cX9_middle 13 = .ok (.invokevirtual 55, 3) := by decide +kernel
theorem dX9_middle_16 : decode cX9_middle 16 = .ok (.ireturn, 1) := by decide +kernel
theorem dX9_middle_17 : decode cX9_middle 17 = .ok (.iconst 0, 1) := by decide +kernel
theorem dX9_middle_18 : decode cX9_middle 18 = .ok (.istore_n 2, 1) := by decide +kernel
theorem dX9_middle_19 : decode cX9_middle 19 = .ok (.iconst 0, 1) := by decide +kernel
theorem dX9_middle_20 : decode cX9_middle 20 = .ok (.istore_n 3, 1) := by decide +kernel
theorem dX9_middle_21 : decode cX9_middle 21 = .ok (.iconst 0, 1) := by decide +kernel
theorem dX9_middle_22 : decode cX9_middle 22 = .ok (.istore 4, 2) := by decide +kernel
theorem dX9_middle_24 : decode cX9_middle 24 = .ok (.iload 4, 2) := by decide +kernel
theorem dX9_middle_26 : decode cX9_middle 26 = .ok (.aload_n 0, 1) := by decide +kernel
theorem dX9_middle_27 : decode cX9_middle 27 = .ok (.getfield 35, 3) := by decide +kernel
theorem dX9_middle_30 : decode cX9_middle 30 = .ok (.if_icmp .ge 80, 3) := by decide +kernel
theorem dX9_middle_33 : decode cX9_middle 33 = .ok (.iload_n 1, 1) := by decide +kernel
theorem dX9_middle_34 : decode cX9_middle 34 = .ok (.ifCond .ne 12, 3) := by decide +kernel
theorem dX9_middle_37 : decode cX9_middle 37 = .ok (.aload_n 0, 1) := by decide +kernel
theorem dX9_middle_38 : decode cX9_middle 38 = .ok (.iload 4, 2) := by decide +kernel
theorem dX9_middle_40 : decode cX9_middle 40 = .ok (.invokevirtual 111, 3) := by decide +kernel
theorem dX9_middle_43 : decode cX9_middle 43 = .ok (.goto 23, 3) := by decide +kernel
theorem dX9_middle_46 : decode cX9_middle 46 = .ok (.iload_n 1, 1) := by decide +kernel
theorem dX9_middle_47 : decode cX9_middle 47 = .ok (.iconst 1, 1) := by decide +kernel
theorem dX9_middle_48 : decode cX9_middle 48 = .ok (.if_icmp .ne 12, 3) := by decide +kernel
theorem dX9_middle_51 : decode cX9_middle 51 = .ok (.aload_n 0, 1) := by decide +kernel
theorem dX9_middle_52 : decode cX9_middle 52 = .ok (.iload 4, 2) := by decide +kernel
theorem dX9_middle_54 : decode cX9_middle 54 = .ok (.invokevirtual 115, 3) := by decide +kernel
theorem dX9_middle_57 : decode cX9_middle 57 = .ok (.goto 9, 3) := by decide +kernel
theorem dX9_middle_60 : decode cX9_middle 60 = .ok (.aload_n 0, 1) := by decide +kernel
theorem dX9_middle_61 : decode cX9_middle 61 = .ok (.iload 4, 2) := by decide +kernel
theorem dX9_middle_63 : decode cX9_middle 63 = .ok (.invokevirtual 118, 3) := by decide +kernel
theorem dX9_middle_66 : decode cX9_middle 66 = .ok (.istore 5, 2) := by decide +kernel
theorem dX9_middle_68 : decode cX9_middle 68 = .ok (.iload 4, 2) := by decide +kernel
theorem dX9_middle_70 : decode cX9_middle 70 = .ok (.ifCond .eq 9, 3) := by decide +kernel
theorem dX9_middle_73 : decode cX9_middle 73 = .ok (.iload 5, 2) := by decide +kernel
theorem dX9_middle_75 : decode cX9_middle 75 = .ok (.iload_n 3, 1) := by decide +kernel
theorem dX9_middle_76 : decode cX9_middle 76 = .ok (.if_icmp .ge 8, 3) := by decide +kernel
theorem dX9_middle_79 : decode cX9_middle 79 = .ok (.iload 4, 2) := by decide +kernel
theorem dX9_middle_81 : decode cX9_middle 81 = .ok (.goto 4, 3) := by decide +kernel
theorem dX9_middle_84 : decode cX9_middle 84 = .ok (.iload_n 2, 1) := by decide +kernel
theorem dX9_middle_85 : decode cX9_middle 85 = .ok (.istore_n 2, 1) := by decide +kernel
theorem dX9_middle_86 : decode cX9_middle 86 = .ok (.iload 4, 2) := by decide +kernel
theorem dX9_middle_88 : decode cX9_middle 88 = .ok (.ifCond .eq 9, 3) := by decide +kernel
theorem dX9_middle_91 : decode cX9_middle 91 = .ok (.iload 5, 2) := by decide +kernel
theorem dX9_middle_93 : decode cX9_middle 93 = .ok (.iload_n 3, 1) := by decide +kernel
theorem dX9_middle_94 : decode cX9_middle 94 = .ok (.if_icmp .ge 8, 3) := by decide +kernel
theorem dX9_middle_97 : decode cX9_middle 97 = .ok (.iload 5, 2) := by decide +kernel
theorem dX9_middle_99 : decode cX9_middle 99 = .ok (.goto 4, 3) := by decide +kernel
theorem dX9_middle_102 : decode cX9_middle 102 = .ok (.iload_n 3, 1) := by decide +kernel
theorem dX9_middle_103 : decode cX9_middle 103 = .ok (.istore_n 3, 1) := by decide +kernel
theorem dX9_middle_104 : decode cX9_middle 104 = .ok (.iinc 4 1, 3) := by decide +kernel
theorem dX9_middle_107 : decode cX9_middle 107 = .ok (.goto (-83), 3) := by decide +kernel
theorem dX9_middle_110 : decode cX9_middle 110 = .ok (.iload_n 2, 1) := by decide +kernel
theorem dX9_middle_111 : decode cX9_middle 111 = .ok (.ireturn, 1) := by decide +kernel
theorem dX9_openMany_0 : decode cX9_openMany 0 = .ok (.iconst 0, 1) := by decide +kernel
theorem dX9_openMany_1 : decode cX9_openMany 1 = .ok (.istore_n 1, 1) := by decide +kernel
theorem dX9_openMany_2 : decode cX9_openMany 2 = .ok (.iconst 0, 1) := by decide +kernel
theorem dX9_openMany_3 : decode cX9_openMany 3 = .ok (.istore_n 2, 1) := by decide +kernel
theorem dX9_openMany_4 : decode cX9_openMany 4 = .ok (.iload_n 2, 1) := by decide +kernel
theorem dX9_openMany_5 : decode cX9_openMany 5 = .ok (.aload_n 0, 1) := by decide +kernel
theorem dX9_openMany_6 : decode cX9_openMany 6 = .ok (.getfield 35, 3) := by decide +kernel
theorem dX9_openMany_9 : decode cX9_openMany 9 = .ok (.if_icmp .ge 26, 3) := by decide +kernel
theorem dX9_openMany_12 : decode cX9_openMany 12 = .ok (.iload_n 1, 1) := by decide +kernel
theorem dX9_openMany_13 : decode cX9_openMany 13 = .ok (.aload_n 0, 1) := by decide +kernel
theorem dX9_openMany_14 : decode cX9_openMany 14 = .ok (.getfield 16, 3) := by decide +kernel
theorem dX9_openMany_17 : decode cX9_openMany 17 = .ok (.iload_n 2, 1) := by decide +kernel
theorem dX9_openMany_18 : decode cX9_openMany 18 = .ok (.baload, 1) := by decide +kernel
theorem dX9_openMany_19 : decode cX9_openMany 19 = .ok (.ifCond .eq 7, 3) := by decide +kernel
theorem dX9_openMany_22 : decode cX9_openMany 22 = .ok (.iconst 1, 1) := by decide +kernel
theorem dX9_openMany_23 : decode cX9_openMany 23 = .ok (.goto 4, 3) := by decide +kernel
theorem dX9_openMany_26 : decode cX9_openMany 26 = .ok (.iconst 0, 1) := by decide +kernel
theorem dX9_openMany_27 : decode cX9_openMany 27 = .ok (.iadd, 1) := by decide +kernel
theorem dX9_openMany_28 : decode cX9_openMany 28 = .ok (.istore_n 1, 1) := by decide +kernel
theorem dX9_openMany_29 : decode cX9_openMany 29 = .ok (.iinc 2 1, 3) := by decide +kernel
theorem dX9_openMany_32 : decode cX9_openMany 32 = .ok (.goto (-28), 3) := by decide +kernel
theorem dX9_openMany_35 : decode cX9_openMany 35 = .ok (.iload_n 1, 1) := by decide +kernel
theorem dX9_openMany_36 : decode cX9_openMany 36 = .ok (.ireturn, 1) := by decide +kernel
set_option maxRecDepth 20000 in
theorem ggX9_nearestOf_X9_farFrom : GoodIn wsX9_nearestOf wsX9_farFrom := goodIn_r _ [7, 8, 9, 10, 11, 12, 13, 14, 15, 16, 17, 18, 19, 20, 21, 22, 23, 24, 25, 26, 27, 28, 29, 30, 31] (by decide +kernel) (by decide +kernel)
set_option maxRecDepth 20000 in
theorem gX9_nearestOf_X9_farFrom : GoodIn wsX9_nearestOf (wsV RX9 99 RX9 yX9_farFrom wsX9_farFrom) := goodIn_app (goodIn_of _ (by decide +kernel)) ggX9_nearestOf_X9_farFrom
theorem dX9_nearestOf_0 : decode cX9_nearestOf 0 = .ok (.iconst (-1), 1) := by decide +kernel
theorem dX9_nearestOf_1 : decode cX9_nearestOf 1 = .ok (.istore_n 2, 1) := by decide +kernel
theorem dX9_nearestOf_2 : decode cX9_nearestOf 2 = .ok (.aload_n 0, 1) := by decide +kernel
theorem dX9_nearestOf_3 : decode cX9_nearestOf 3 = .ok (.getfield 35, 3) := by decide +kernel
theorem dX9_nearestOf_6 : decode cX9_nearestOf 6 = .ok (.iconst 1, 1) := by decide +kernel
theorem dX9_nearestOf_7 : decode cX9_nearestOf 7 = .ok (.isub, 1) := by decide +kernel
theorem dX9_nearestOf_8 : decode cX9_nearestOf 8 = .ok (.istore_n 3, 1) := by decide +kernel
theorem dX9_nearestOf_9 : decode cX9_nearestOf 9 = .ok (.iload_n 3, 1) := by decide +kernel
theorem dX9_nearestOf_10 : decode cX9_nearestOf 10 = .ok (.ifCond .lt 44, 3) := by decide +kernel
theorem dX9_nearestOf_13 : decode cX9_nearestOf 13 = .ok (.aload_n 0, 1) := by decide +kernel
theorem dX9_nearestOf_14 : decode cX9_nearestOf 14 = .ok (.getfield 16, 3) := by decide +kernel
theorem dX9_nearestOf_17 : decode cX9_nearestOf 17 = .ok (.iload_n 3, 1) := by decide +kernel
theorem dX9_nearestOf_18 : decode cX9_nearestOf 18 = .ok (.baload, 1) := by decide +kernel
theorem dX9_nearestOf_19 : decode cX9_nearestOf 19 = .ok (.ifCond .eq 27, 3) := by decide +kernel
theorem dX9_nearestOf_22 : decode cX9_nearestOf 22 = .ok (.iload_n 2, 1) := by decide +kernel
theorem dX9_nearestOf_23 : decode cX9_nearestOf 23 = .ok (.iconst (-1), 1) := by decide +kernel
theorem dX9_nearestOf_24 : decode cX9_nearestOf 24 = .ok (.if_icmp .eq 18, 3) := by decide +kernel
theorem dX9_nearestOf_27 : decode cX9_nearestOf 27 = .ok (.aload_n 0, 1) := by decide +kernel
theorem dX9_nearestOf_28 : decode cX9_nearestOf 28 = .ok (.iload_n 3, 1) := by decide +kernel
theorem dX9_nearestOf_29 : decode cX9_nearestOf 29 = .ok (.iload_n 1, 1) := by decide +kernel
theorem dX9_nearestOf_30 : decode cX9_nearestOf 30 = .ok (.invokevirtual 99, 3) := by decide +kernel
theorem dX9_nearestOf_33 : decode cX9_nearestOf 33 = .ok (.aload_n 0, 1) := by decide +kernel
theorem dX9_nearestOf_34 : decode cX9_nearestOf 34 = .ok (.iload_n 2, 1) := by decide +kernel
theorem dX9_nearestOf_35 : decode cX9_nearestOf 35 = .ok (.iload_n 1, 1) := by decide +kernel
theorem dX9_nearestOf_36 : decode cX9_nearestOf 36 = .ok (.invokevirtual 99, 3) := by decide +kernel
theorem dX9_nearestOf_39 : decode cX9_nearestOf 39 = .ok (.if_icmp .gt 7, 3) := by decide +kernel
theorem dX9_nearestOf_42 : decode cX9_nearestOf 42 = .ok (.iload_n 3, 1) := by decide +kernel
theorem dX9_nearestOf_43 : decode cX9_nearestOf 43 = .ok (.goto 4, 3) := by decide +kernel
theorem dX9_nearestOf_46 : decode cX9_nearestOf 46 = .ok (.iload_n 2, 1) := by decide +kernel
theorem dX9_nearestOf_47 : decode cX9_nearestOf 47 = .ok (.istore_n 2, 1) := by decide +kernel
theorem dX9_nearestOf_48 : decode cX9_nearestOf 48 = .ok (.iinc 3 (-1), 3) := by decide +kernel
theorem dX9_nearestOf_51 : decode cX9_nearestOf 51 = .ok (.goto (-42), 3) := by decide +kernel
theorem dX9_nearestOf_54 : decode cX9_nearestOf 54 = .ok (.iload_n 2, 1) := by decide +kernel
theorem dX9_nearestOf_55 : decode cX9_nearestOf 55 = .ok (.ireturn, 1) := by decide +kernel
set_option maxRecDepth 20000 in
theorem ggX9_nearest_X9_isVillage : GoodIn wsX9_nearest wsX9_isVillage := goodIn_r _ [5, 6, 7, 8, 4, 9, 26, 27, 28, 29, 30, 31, 32, 33, 34, 35, 36, 37, 38, 39, 40, 41, 42, 43, 44, 45, 46, 47] (by decide +kernel) (by decide +kernel)
set_option maxRecDepth 20000 in
theorem gX9_nearest_X9_isVillage : GoodIn wsX9_nearest (wsV RX9 49 RX9 yX9_isVillage wsX9_isVillage) := goodIn_app (goodIn_of _ (by decide +kernel)) ggX9_nearest_X9_isVillage
set_option maxRecDepth 20000 in
theorem ggX9_nearest_X9_in : GoodIn wsX9_nearest wsX9_in := goodIn_r _ [9] (by decide +kernel) (by decide +kernel)
set_option maxRecDepth 20000 in
theorem gX9_nearest_X9_in : GoodIn wsX9_nearest (va_wsS RX9 39 yX9_in wsX9_in) := goodIn_app (goodIn_of _ (by decide +kernel)) ggX9_nearest_X9_in
set_option maxRecDepth 20000 in
theorem ggX9_nearest_X9_refuse : GoodIn wsX9_nearest wsX9_refuse := goodIn_r _ [13, 14, 26, 27, 28, 29, 30, 31, 32, 33, 34, 35, 36, 37, 38, 39, 40, 41, 42, 43, 44, 45, 46, 47] (by decide +kernel) (by decide +kernel)
set_option maxRecDepth 20000 in
theorem gX9_nearest_X9_refuse : GoodIn wsX9_nearest (wsV RX9 55 RX9 yX9_refuse wsX9_refuse) := goodIn_app (goodIn_of _ (by decide +kernel)) ggX9_nearest_X9_refuse
set_option maxRecDepth 20000 in
theorem ggX9_nearest_X9_nearestOf : GoodIn wsX9_nearest wsX9_nearestOf := goodIn_r _ [18, 6, 19, 20, 21, 22, 4, 23, 24, 25, 26, 27, 28, 29, 30, 31, 32, 33, 34, 35, 36, 37, 38, 39, 40, 41, 42, 43, 44, 45, 46, 47] (by decide +kernel) (by decide +kernel)
set_option maxRecDepth 20000 in
theorem gX9_nearest_X9_nearestOf : GoodIn wsX9_nearest (wsV RX9 121 RX9 yX9_nearestOf wsX9_nearestOf) := goodIn_app (goodIn_of _ (by decide +kernel)) ggX9_nearest_X9_nearestOf
set_option maxRecDepth 20000 in
theorem ggX9_nearest_X9_farFrom : GoodIn wsX9_nearest wsX9_farFrom := goodIn_r _ [23, 24, 25, 26, 27, 28, 29, 30, 31, 32, 33, 34, 35, 36, 37, 38, 39, 40, 41, 42, 43, 44, 45, 46, 47] (by decide +kernel) (by decide +kernel)
set_option maxRecDepth 20000 in
theorem gX9_nearest_X9_farFrom : GoodIn wsX9_nearest (wsV RX9 99 RX9 yX9_farFrom wsX9_farFrom) := goodIn_app (goodIn_of _ (by decide +kernel)) ggX9_nearest_X9_farFrom
theorem dX9_nearest_0 : decode cX9_nearest 0 = .ok (.aload_n 0, 1) := by decide +kernel
theorem dX9_nearest_1 : decode cX9_nearest 1 = .ok (.iload_n 1, 1) := by decide +kernel
theorem dX9_nearest_2 : decode cX9_nearest 2 = .ok (.invokevirtual 49, 3) := by decide +kernel
theorem dX9_nearest_5 : decode cX9_nearest 5 = .ok (.ifCond .eq 13, 3) := by decide +kernel
theorem dX9_nearest_8 : decode cX9_nearest 8 = .ok (.iload_n 2, 1) := by decide +kernel
theorem dX9_nearest_9 : decode cX9_nearest 9 = .ok (.i2l, 1) := by decide +kernel
theorem dX9_nearest_10 : decode cX9_nearest 10 = .ok (.lconst 0, 1) := by decide +kernel
theorem dX9_nearest_11 : decode cX9_nearest 11 = .ok (.lconst 1, 1) := by decide +kernel
theorem dX9_nearest_12 : decode cX9_nearest 12 = .ok (.invokestatic 39, 3) := by decide +kernel
theorem dX9_nearest_15 : decode cX9_nearest 15 = .ok (.ifCond .ne 8, 3) := by decide +kernel
theorem dX9_nearest_18 : decode cX9_nearest 18 = .ok (.aload_n 0, 1) := by decide +kernel
theorem dX9_nearest_19 : decode cX9_nearest 19 = .ok (.invokevirtual 55, 3) := by decide +kernel
theorem dX9_nearest_22 : decode cX9_nearest 22 = .ok (.ireturn, 1) := by decide +kernel
theorem dX9_nearest_23 : decode cX9_nearest 23 = .ok (.aload_n 0, 1) := by decide +kernel
theorem dX9_nearest_24 : decode cX9_nearest 24 = .ok (.iload_n 1, 1) := by decide +kernel
theorem dX9_nearest_25 : decode cX9_nearest 25 = .ok (.invokevirtual 121, 3) := by decide +kernel
theorem dX9_nearest_28 : decode cX9_nearest 28 = .ok (.istore_n 3, 1) := by decide +kernel
theorem dX9_nearest_29 : decode cX9_nearest 29 = .ok (.iload_n 2, 1) := by decide +kernel
theorem dX9_nearest_30 : decode cX9_nearest 30 = .ok (.ifCond .eq 8, 3) := by decide +kernel
theorem dX9_nearest_33 : decode cX9_nearest 33 = .ok (.iload_n 3, 1) := by decide +kernel
theorem dX9_nearest_34 : decode cX9_nearest 34 = .ok (.iconst (-1), 1) := by decide +kernel
theorem dX9_nearest_35 : decode cX9_nearest 35 = .ok (.if_icmp .ne 7, 3) := by decide +kernel
theorem dX9_nearest_38 : decode cX9_nearest 38 = .ok (.iload_n 3, 1) := by decide +kernel
theorem dX9_nearest_39 : decode cX9_nearest 39 = .ok (.goto 9, 3) := by decide +kernel
theorem dX9_nearest_42 : decode cX9_nearest 42 = .ok (.aload_n 0, 1) := by decide +kernel
theorem dX9_nearest_43 : decode cX9_nearest 43 = .ok (.iload_n 3, 1) := by decide +kernel
theorem dX9_nearest_44 : decode cX9_nearest 44 = .ok (.iload_n 1, 1) := by decide +kernel
theorem dX9_nearest_45 : decode cX9_nearest 45 = .ok (.invokevirtual 99, 3) := by decide +kernel
theorem dX9_nearest_48 : decode cX9_nearest 48 = .ok (.ireturn, 1) := by decide +kernel
set_option maxRecDepth 20000 in
theorem ggX9_turn_X9_isVillage : GoodIn wsX9_turn wsX9_isVillage := goodIn_r _ [7, 1, 8, 9, 6, 10, 22, 23, 24, 25, 26, 27, 28, 29, 30, 31, 32, 33, 34, 35, 36, 37, 38, 39, 40, 41, 42, 43] (by decide +kernel) (by decide +kernel)
set_option maxRecDepth 20000 in
theorem gX9_turn_X9_isVillage : GoodIn wsX9_turn (wsV RX9 49 RX9 yX9_isVillage wsX9_isVillage) := goodIn_app (goodIn_of _ (by decide +kernel)) ggX9_turn_X9_isVillage
set_option maxRecDepth 20000 in
theorem ggX9_turn_X9_in : GoodIn wsX9_turn wsX9_in := goodIn_r _ [10] (by decide +kernel) (by decide +kernel)
set_option maxRecDepth 20000 in
theorem gX9_turn_X9_in : GoodIn wsX9_turn (va_wsS RX9 39 yX9_in wsX9_in) := goodIn_app (goodIn_of _ (by decide +kernel)) ggX9_turn_X9_in
set_option maxRecDepth 20000 in
theorem ggX9_turn_X9_refuse : GoodIn wsX9_turn wsX9_refuse := goodIn_r _ [14, 15, 22, 23, 24, 25, 26, 27, 28, 29, 30, 31, 32, 33, 34, 35, 36, 37, 38, 39, 40, 41, 42, 43] (by decide +kernel) (by decide +kernel)
set_option maxRecDepth 20000 in
theorem gX9_turn_X9_refuse : GoodIn wsX9_turn (wsV RX9 55 RX9 yX9_refuse wsX9_refuse) := goodIn_app (goodIn_of _ (by decide +kernel)) ggX9_turn_X9_refuse
set_option maxRecDepth 20000 in
theorem ggX9_turn_X9_farFrom : GoodIn wsX9_turn wsX9_farFrom := goodIn_r _ [19, 20, 21, 22, 23, 24, 25, 26, 27, 28, 29, 30, 31, 32, 33, 34, 35, 36, 37, 38, 39, 40, 41, 42, 43] (by decide +kernel) (by decide +kernel)
set_option maxRecDepth 20000 in
theorem gX9_turn_X9_farFrom : GoodIn wsX9_turn (wsV RX9 99 RX9 yX9_farFrom wsX9_farFrom) := goodIn_app (goodIn_of _ (by decide +kernel)) ggX9_turn_X9_farFrom
theorem dX9_turn_0 : decode cX9_turn 0 = .ok (.aload_n 0, 1) := by decide +kernel
theorem dX9_turn_1 : decode cX9_turn 1 = .ok (.iload_n 1, 1) := by decide +kernel
theorem dX9_turn_2 : decode cX9_turn 2 = .ok (.invokevirtual 49, 3) := by decide +kernel
theorem dX9_turn_5 : decode cX9_turn 5 = .ok (.ifCond .eq 17, 3) := by decide +kernel
theorem dX9_turn_8 : decode cX9_turn 8 = .ok (.iload_n 2, 1) := by decide +kernel
theorem dX9_turn_9 : decode cX9_turn 9 = .ok (.ifCond .lt 13, 3) := by decide +kernel
theorem dX9_turn_12 : decode cX9_turn 12 = .ok (.iload_n 3, 1) := by decide +kernel
theorem dX9_turn_13 : decode cX9_turn 13 = .ok (.i2l, 1) := by decide +kernel
theorem dX9_turn_14 : decode cX9_turn 14 = .ok (.lconst 0, 1) := by decide +kernel
theorem dX9_turn_15 : decode cX9_turn 15 = .ok (.lconst 1, 1) := by decide +kernel
theorem dX9_turn_16 : decode cX9_turn 16 = .ok (.invokestatic 39, 3) := by decide +kernel
theorem dX9_turn_19 : decode cX9_turn 19 = .ok (.ifCond .ne 8, 3) := by decide +kernel
theorem dX9_turn_22 : decode cX9_turn 22 = .ok (.aload_n 0, 1) := by decide +kernel
theorem dX9_turn_23 : decode cX9_turn 23 = .ok (.invokevirtual 55, 3) := by decide +kernel
theorem dX9_turn_26 : decode cX9_turn 26 = .ok (.ireturn, 1) := by decide +kernel
theorem dX9_turn_27 : decode cX9_turn 27 = .ok (.iconst 0, 1) := by decide +kernel
theorem dX9_turn_28 : decode cX9_turn 28 = .ok (.istore 4, 2) := by decide +kernel
theorem dX9_turn_30 : decode cX9_turn 30 = .ok (.iload 4, 2) := by decide +kernel
theorem dX9_turn_32 : decode cX9_turn 32 = .ok (.aload_n 0, 1) := by decide +kernel
theorem dX9_turn_33 : decode cX9_turn 33 = .ok (.getfield 35, 3) := by decide +kernel
theorem dX9_turn_36 : decode cX9_turn 36 = .ok (.if_icmp .ge 127, 3) := by decide +kernel
theorem dX9_turn_39 : decode cX9_turn 39 = .ok (.iconst 0, 1) := by decide +kernel
theorem dX9_turn_40 : decode cX9_turn 40 = .ok (.istore 5, 2) := by decide +kernel
theorem dX9_turn_42 : decode cX9_turn 42 = .ok (.iconst 0, 1) := by decide +kernel
theorem dX9_turn_43 : decode cX9_turn 43 = .ok (.istore 6, 2) := by decide +kernel
theorem dX9_turn_45 : decode cX9_turn 45 = .ok (.iload 6, 2) := by decide +kernel
theorem dX9_turn_47 : decode cX9_turn 47 = .ok (.aload_n 0, 1) := by decide +kernel
theorem dX9_turn_48 : decode cX9_turn 48 = .ok (.getfield 35, 3) := by decide +kernel
theorem dX9_turn_51 : decode cX9_turn 51 = .ok (.if_icmp .ge 73, 3) := by decide +kernel
theorem dX9_turn_54 : decode cX9_turn 54 = .ok (.aload_n 0, 1) := by decide +kernel
theorem dX9_turn_55 : decode cX9_turn 55 = .ok (.getfield 16, 3) := by decide +kernel
theorem dX9_turn_58 : decode cX9_turn 58 = .ok (.iload 4, 2) := by decide +kernel
theorem dX9_turn_60 : decode cX9_turn 60 = .ok (.baload, 1) := by decide +kernel
theorem dX9_turn_61 : decode cX9_turn 61 = .ok (.ifCond .eq 63, 3) := by decide +kernel
theorem dX9_turn_64 : decode cX9_turn 64 = .ok (.aload_n 0, 1) := by decide +kernel
theorem dX9_turn_65 : decode cX9_turn 65 = .ok (.iload 6, 2) := by decide +kernel
theorem dX9_turn_67 : decode cX9_turn 67 = .ok (.iload_n 1, 1) := by decide +kernel
theorem dX9_turn_68 : decode cX9_turn 68 = .ok (.invokevirtual 99, 3) := by decide +kernel
theorem dX9_turn_71 : decode cX9_turn 71 = .ok (.aload_n 0, 1) := by decide +kernel
theorem dX9_turn_72 : decode cX9_turn 72 = .ok (.iload 4, 2) := by decide +kernel
theorem dX9_turn_74 : decode cX9_turn 74 = .ok (.iload_n 1, 1) := by decide +kernel
theorem dX9_turn_75 : decode cX9_turn 75 = .ok (.invokevirtual 99, 3) := by decide +kernel
theorem dX9_turn_78 : decode cX9_turn 78 = .ok (.isub, 1) := by decide +kernel
theorem dX9_turn_79 : decode cX9_turn 79 = .ok (.istore 7, 2) := by decide +kernel
theorem dX9_turn_81 : decode cX9_turn 81 = .ok (.iload 5, 2) := by decide +kernel
theorem dX9_turn_83 : decode cX9_turn 83 = .ok (.aload_n 0, 1) := by decide +kernel
theorem dX9_turn_84 : decode cX9_turn 84 = .ok (.getfield 16, 3) := by decide +kernel
theorem dX9_turn_87 : decode cX9_turn 87 = .ok (.iload 6, 2) := by decide +kernel
theorem dX9_turn_89 : decode cX9_turn 89 = .ok (.baload, 1) := by decide +kernel
theorem dX9_turn_90 : decode cX9_turn 90 = .ok (.ifCond .eq 24, 3) := by decide +kernel
theorem dX9_turn_93 : decode cX9_turn 93 = .ok (.iload 7, 2) := by decide +kernel
theorem dX9_turn_95 : decode cX9_turn 95 = .ok (.ifCond .lt 15, 3) := by decide +kernel
theorem dX9_turn_98 : decode cX9_turn 98 = .ok (.iload 7, 2) := by decide +kernel
theorem dX9_turn_100 : decode cX9_turn 100 = .ok (.ifCond .ne 14, 3) := by decide +kernel
theorem dX9_turn_103 : decode cX9_turn 103 = .ok (.iload 6, 2) := by decide +kernel
theorem dX9_turn_105 : decode cX9_turn 105 = .ok (.iload 4, 2) := by decide +kernel
theorem dX9_turn_107 : decode cX9_turn 107 = .ok (.if_icmp .ge 7, 3) := by decide +kernel
theorem dX9_turn_110 : decode cX9_turn 110 = .ok (.iconst 1, 1) := by decide +kernel
theorem dX9_turn_111 : decode cX9_turn 111 = .ok (.goto 4, 3) := by decide +kernel
theorem dX9_turn_114 : decode cX9_turn 114 = .ok (.iconst 0, 1) := by decide +kernel
theorem dX9_turn_115 : decode cX9_turn 115 = .ok (.iadd, 1) := by decide +kernel
theorem dX9_turn_116 : decode cX9_turn 116 = .ok (.istore 5, 2) := by decide +kernel
theorem dX9_turn_118 : decode cX9_turn 118 = .ok (.iinc 6 1, 3) := by decide +kernel
theorem dX9_turn_121 : decode cX9_turn 121 = .ok (.goto (-76), 3) := by decide +kernel
theorem dX9_turn_124 : decode cX9_turn 124 = .ok (.aload_n 0, 1) := by decide +kernel
theorem dX9_turn_125 : decode cX9_turn 125 = .ok (.getfield 16, 3) := by decide +kernel
theorem dX9_turn_128 : decode cX9_turn 128 = .ok (.iload 4, 2) := by decide +kernel
theorem dX9_turn_130 : decode cX9_turn 130 = .ok (.baload, 1) := by decide +kernel
theorem dX9_turn_131 : decode cX9_turn 131 = .ok (.ifCond .eq 26, 3) := by decide +kernel
theorem dX9_turn_134 : decode cX9_turn 134 = .ok (.iload 5, 2) := by decide +kernel
theorem dX9_turn_136 : decode cX9_turn 136 = .ok (.iload_n 2, 1) := by decide +kernel
theorem dX9_turn_137 : decode cX9_turn 137 = .ok (.if_icmp .ne 20, 3) := by decide +kernel
theorem dX9_turn_140 : decode cX9_turn 140 = .ok (.iload_n 3, 1) := by decide +kernel
theorem dX9_turn_141 : decode cX9_turn 141 = .ok (.ifCond .ne 8, 3) := by decide +kernel
theorem dX9_turn_144 : decode cX9_turn 144 = .ok (.iload 4, 2) := by decide +kernel
theorem dX9_turn_146 : decode cX9_turn 146 = .ok (.goto 10, 3) := by decide +kernel
theorem dX9_turn_149 : decode cX9_turn 149 = .ok (.aload_n 0, 1) := by decide +kernel
theorem dX9_turn_150 : decode cX9_turn 150 = .ok (.iload 4, 2) := by decide +kernel
theorem dX9_turn_152 : decode cX9_turn 152 = .ok (.iload_n 1, 1) := by decide +kernel
theorem dX9_turn_153 : decode cX9_turn 153 = .ok (.invokevirtual 99, 3) := by decide +kernel
theorem dX9_turn_156 : decode cX9_turn 156 = .ok (.ireturn, 1) := by decide +kernel
theorem dX9_turn_157 : decode cX9_turn 157 = .ok (.iinc 4 1, 3) := by decide +kernel
theorem dX9_turn_160 : decode cX9_turn 160 = .ok (.goto (-130), 3) := by decide +kernel
theorem dX9_turn_163 : decode cX9_turn 163 = .ok (.iconst (-1), 1) := by decide +kernel
theorem dX9_turn_164 : decode cX9_turn 164 = .ok (.ireturn, 1) := by decide +kernel
set_option maxRecDepth 20000 in
theorem ggX9_manyWithin_X9_farFrom : GoodIn wsX9_manyWithin wsX9_farFrom := goodIn_r _ [7, 8, 9, 10, 11, 12, 13, 14, 15, 16, 17, 18, 19, 20, 21, 22, 23, 24, 25, 26, 27, 28, 29, 30, 31] (by decide +kernel) (by decide +kernel)
set_option maxRecDepth 20000 in
theorem gX9_manyWithin_X9_farFrom : GoodIn wsX9_manyWithin (wsV RX9 99 RX9 yX9_farFrom wsX9_farFrom) := goodIn_app (goodIn_of _ (by decide +kernel)) ggX9_manyWithin_X9_farFrom
theorem dX9_manyWithin_0 : decode cX9_manyWithin 0 = .ok (.iconst 0, 1) := by decide +kernel
theorem dX9_manyWithin_1 : decode cX9_manyWithin 1 = .ok (.istore_n 3, 1) := by decide +kernel
theorem dX9_manyWithin_2 : decode cX9_manyWithin 2 = .ok (.iconst 0, 1) := by decide +kernel
theorem dX9_manyWithin_3 : decode cX9_manyWithin 3 = .ok (.istore 4, 2) := by decide +kernel
theorem dX9_manyWithin_5 : decode cX9_manyWithin 5 = .ok (.iload 4, 2) := by decide +kernel
theorem dX9_manyWithin_7 : decode cX9_manyWithin 7 = .ok (.aload_n 0, 1) := by decide +kernel
theorem dX9_manyWithin_8 : decode cX9_manyWithin 8 = .ok (.getfield 35, 3) := by decide +kernel
theorem dX9_manyWithin_11 : decode cX9_manyWithin 11 = .ok (.if_icmp .ge 38, 3) := by decide +kernel
theorem dX9_manyWithin_14 : decode cX9_manyWithin 14 = .ok (.iload_n 3, 1) := by decide +kernel
theorem dX9_manyWithin_15 : decode cX9_manyWithin 15 = .ok (.aload_n 0, 1) := by decide +kernel
theorem dX9_manyWithin_16 : decode cX9_manyWithin 16 = .ok (.getfield 16, 3) := by decide +kernel
theorem dX9_manyWithin_19 : decode cX9_manyWithin 19 = .ok (.iload 4, 2) := by decide +kernel
theorem dX9_manyWithin_21 : decode cX9_manyWithin 21 = .ok (.baload, 1) := by decide +kernel
theorem dX9_manyWithin_22 : decode cX9_manyWithin 22 = .ok (.ifCond .eq 18, 3) := by decide +kernel
theorem dX9_manyWithin_25 : decode cX9_manyWithin 25 = .ok (.aload_n 0, 1) := by decide +kernel
theorem dX9_manyWithin_26 : decode cX9_manyWithin 26 = .ok (.iload 4, 2) := by decide +kernel
theorem dX9_manyWithin_28 : decode cX9_manyWithin 28 = .ok (.iload_n 1, 1) := by decide +kernel
theorem dX9_manyWithin_29 : decode cX9_manyWithin 29 = .ok (.invokevirtual 99, 3) := by decide +kernel
theorem dX9_manyWithin_32 : decode cX9_manyWithin 32 = .ok (.iload_n 2, 1) := by decide +kernel
theorem dX9_manyWithin_33 : decode cX9_manyWithin 33 = .ok (.if_icmp .gt 7, 3) := by decide +kernel
theorem dX9_manyWithin_36 : decode cX9_manyWithin 36 = .ok (.iconst 1, 1) := by decide +kernel
theorem dX9_manyWithin_37 : decode cX9_manyWithin 37 = .ok (.goto 4, 3) := by decide +kernel
theorem dX9_manyWithin_40 : decode cX9_manyWithin 40 = .ok (.iconst 0, 1) := by decide +kernel
theorem dX9_manyWithin_41 : decode cX9_manyWithin 41 = .ok (.iadd, 1) := by decide +kernel
theorem dX9_manyWithin_42 : decode cX9_manyWithin 42 = .ok (.istore_n 3, 1) := by decide +kernel
theorem dX9_manyWithin_43 : decode cX9_manyWithin 43 = .ok (.iinc 4 1, 3) := by decide +kernel
theorem dX9_manyWithin_46 : decode cX9_manyWithin 46 = .ok (.goto (-41), 3) := by decide +kernel
theorem dX9_manyWithin_49 : decode cX9_manyWithin 49 = .ok (.iload_n 3, 1) := by decide +kernel
theorem dX9_manyWithin_50 : decode cX9_manyWithin 50 = .ok (.ireturn, 1) := by decide +kernel
set_option maxRecDepth 20000 in
theorem ggX9_within_X9_isVillage : GoodIn wsX9_within wsX9_isVillage := goodIn_r _ [6, 7, 8, 9, 5, 10, 27, 28, 29, 30, 31, 32, 33, 34, 35, 36, 37, 38, 39, 40, 41, 42, 43, 44, 45, 46, 47, 48] (by decide +kernel) (by decide +kernel)
set_option maxRecDepth 20000 in
theorem gX9_within_X9_isVillage : GoodIn wsX9_within (wsV RX9 49 RX9 yX9_isVillage wsX9_isVillage) := goodIn_app (goodIn_of _ (by decide +kernel)) ggX9_within_X9_isVillage
set_option maxRecDepth 20000 in
theorem ggX9_within_X9_in : GoodIn wsX9_within wsX9_in := goodIn_r _ [10] (by decide +kernel) (by decide +kernel)
set_option maxRecDepth 20000 in
theorem gX9_within_X9_in : GoodIn wsX9_within (va_wsS RX9 39 yX9_in wsX9_in) := goodIn_app (goodIn_of _ (by decide +kernel)) ggX9_within_X9_in
set_option maxRecDepth 20000 in
theorem ggX9_within_X9_manyWithin : GoodIn wsX9_within wsX9_manyWithin := goodIn_r _ [14, 7, 15, 16, 17, 18, 5, 19, 20, 21, 27, 28, 29, 30, 31, 32, 33, 34, 35, 36, 37, 38, 39, 40, 41, 42, 43, 44, 45, 46, 47, 48] (by decide +kernel) (by decide +kernel)
set_option maxRecDepth 20000 in
theorem gX9_within_X9_manyWithin : GoodIn wsX9_within (wsV RX9 126 RX9 yX9_manyWithin wsX9_manyWithin) := goodIn_app (goodIn_of _ (by decide +kernel)) ggX9_within_X9_manyWithin
set_option maxRecDepth 20000 in
theorem ggX9_within_X9_refuse : GoodIn wsX9_within wsX9_refuse := goodIn_r _ [25, 26, 27, 28, 29, 30, 31, 32, 33, 34, 35, 36, 37, 38, 39, 40, 41, 42, 43, 44, 45, 46, 47, 48] (by decide +kernel) (by decide +kernel)
set_option maxRecDepth 20000 in
theorem gX9_within_X9_refuse : GoodIn wsX9_within (wsV RX9 55 RX9 yX9_refuse wsX9_refuse) := goodIn_app (goodIn_of _ (by decide +kernel)) ggX9_within_X9_refuse
theorem dX9_within_0 : decode cX9_within 0 = .ok (.aload_n 0, 1) := by decide +kernel
theorem dX9_within_1 : decode cX9_within 1 = .ok (.iload_n 1, 1) := by decide +kernel
theorem dX9_within_2 : decode cX9_within 2 = .ok (.invokevirtual 49, 3) := by decide +kernel
theorem dX9_within_5 : decode cX9_within 5 = .ok (.ifCond .eq 24, 3) := by decide +kernel
theorem dX9_within_8 : decode cX9_within 8 = .ok (.iload_n 2, 1) := by decide +kernel
theorem dX9_within_9 : decode cX9_within 9 = .ok (.i2l, 1) := by decide +kernel
theorem dX9_within_10 : decode cX9_within 10 = .ok (.lconst 0, 1) := by decide +kernel
theorem dX9_within_11 : decode cX9_within 11 = .ok (.ldc2_w 124, 3) := by decide +kernel
theorem dX9_within_14 : decode cX9_within 14 = .ok (.invokestatic 39, 3) := by decide +kernel
theorem dX9_within_17 : decode cX9_within 17 = .ok (.ifCond .eq 12, 3) := by decide +kernel
theorem dX9_within_20 : decode cX9_within 20 = .ok (.aload_n 0, 1) := by decide +kernel
theorem dX9_within_21 : decode cX9_within 21 = .ok (.iload_n 1, 1) := by decide +kernel
theorem dX9_within_22 : decode cX9_within 22 = .ok (.iload_n 2, 1) := by decide +kernel
theorem dX9_within_23 : decode cX9_within 23 = .ok (.invokevirtual 126, 3) := by decide +kernel
theorem dX9_within_26 : decode cX9_within 26 = .ok (.goto 7, 3) := by decide +kernel
theorem dX9_within_29 : decode cX9_within 29 = .ok (.aload_n 0, 1) := by decide +kernel
theorem dX9_within_30 : decode cX9_within 30 = .ok (.invokevirtual 55, 3) := by decide +kernel
theorem dX9_within_33 : decode cX9_within 33 = .ok (.ireturn, 1) := by decide +kernel
set_option maxRecDepth 20000 in
theorem ggX9_sumOfOpen_X9_farFrom : GoodIn wsX9_sumOfOpen wsX9_farFrom := goodIn_r _ [7, 8, 9, 10, 11, 12, 13, 14, 15, 16, 17, 18, 19, 20, 21, 22, 23, 24, 25, 26, 27, 28, 29, 30, 31] (by decide +kernel) (by decide +kernel)
set_option maxRecDepth 20000 in
theorem gX9_sumOfOpen_X9_farFrom : GoodIn wsX9_sumOfOpen (wsV RX9 99 RX9 yX9_farFrom wsX9_farFrom) := goodIn_app (goodIn_of _ (by decide +kernel)) ggX9_sumOfOpen_X9_farFrom
theorem dX9_sumOfOpen_0 : decode cX9_sumOfOpen 0 = .ok (.iconst 0, 1) := by decide +kernel
theorem dX9_sumOfOpen_1 : decode cX9_sumOfOpen 1 = .ok (.istore_n 2, 1) := by decide +kernel
theorem dX9_sumOfOpen_2 : decode cX9_sumOfOpen 2 = .ok (.iconst 0, 1) := by decide +kernel
theorem dX9_sumOfOpen_3 : decode cX9_sumOfOpen 3 = .ok (.istore_n 3, 1) := by decide +kernel
theorem dX9_sumOfOpen_4 : decode cX9_sumOfOpen 4 = .ok (.iload_n 3, 1) := by decide +kernel
theorem dX9_sumOfOpen_5 : decode cX9_sumOfOpen 5 = .ok (.aload_n 0, 1) := by decide +kernel
theorem dX9_sumOfOpen_6 : decode cX9_sumOfOpen 6 = .ok (.getfield 35, 3) := by decide +kernel
theorem dX9_sumOfOpen_9 : decode cX9_sumOfOpen 9 = .ok (.if_icmp .ge 31, 3) := by decide +kernel
theorem dX9_sumOfOpen_12 : decode cX9_sumOfOpen 12 = .ok (.iload_n 2, 1) := by decide +kernel
theorem dX9_sumOfOpen_13 : decode cX9_sumOfOpen 13 = .ok (.aload_n 0, 1) := by decide +kernel
theorem dX9_sumOfOpen_14 : decode cX9_sumOfOpen 14 = .ok (.getfield 16, 3) := by decide +kernel
theorem dX9_sumOfOpen_17 : decode cX9_sumOfOpen 17 = .ok (.iload_n 3, 1) := by decide +kernel
theorem dX9_sumOfOpen_18 : decode cX9_sumOfOpen 18 = .ok (.baload, 1) := by decide +kernel
theorem dX9_sumOfOpen_19 : decode cX9_sumOfOpen 19 = .ok (.ifCond .eq 12, 3) := by decide +kernel
theorem dX9_sumOfOpen_22 : decode cX9_sumOfOpen 22 = .ok (.aload_n 0, 1) := by decide +kernel
theorem dX9_sumOfOpen_23 : decode cX9_sumOfOpen 23 = .ok (.iload_n 3, 1) := by decide +kernel
theorem dX9_sumOfOpen_24 : decode cX9_sumOfOpen 24 = .ok (.iload_n 1, 1) := by decide +kernel
theorem dX9_sumOfOpen_25 : decode cX9_sumOfOpen 25 = .ok (.invokevirtual 99, 3) := by decide +kernel
theorem dX9_sumOfOpen_28 : decode cX9_sumOfOpen 28 = .ok (.goto 4, 3) := by decide +kernel
theorem dX9_sumOfOpen_31 : decode cX9_sumOfOpen 31 = .ok (.iconst 0, 1) := by decide +kernel
theorem dX9_sumOfOpen_32 : decode cX9_sumOfOpen 32 = .ok (.iadd, 1) := by decide +kernel
theorem dX9_sumOfOpen_33 : decode cX9_sumOfOpen 33 = .ok (.istore_n 2, 1) := by decide +kernel
theorem dX9_sumOfOpen_34 : decode cX9_sumOfOpen 34 = .ok (.iinc 3 1, 3) := by decide +kernel
theorem dX9_sumOfOpen_37 : decode cX9_sumOfOpen 37 = .ok (.goto (-33), 3) := by decide +kernel
theorem dX9_sumOfOpen_40 : decode cX9_sumOfOpen 40 = .ok (.iload_n 2, 1) := by decide +kernel
theorem dX9_sumOfOpen_41 : decode cX9_sumOfOpen 41 = .ok (.ireturn, 1) := by decide +kernel
set_option maxRecDepth 20000 in
theorem ggX9_sum_X9_isVillage : GoodIn wsX9_sum wsX9_isVillage := goodIn_r _ [5, 6, 7, 8, 4, 9, 26, 27, 28, 29, 30, 31, 32, 33, 34, 35, 36, 37, 38, 39, 40, 41, 42, 43, 44, 45, 46, 47] (by decide +kernel) (by decide +kernel)
set_option maxRecDepth 20000 in
theorem gX9_sum_X9_isVillage : GoodIn wsX9_sum (wsV RX9 49 RX9 yX9_isVillage wsX9_isVillage) := goodIn_app (goodIn_of _ (by decide +kernel)) ggX9_sum_X9_isVillage
set_option maxRecDepth 20000 in
theorem ggX9_sum_X9_sumOfOpen : GoodIn wsX9_sum wsX9_sumOfOpen := goodIn_r _ [13, 6, 14, 15, 16, 17, 4, 18, 19, 20, 26, 27, 28, 29, 30, 31, 32, 33, 34, 35, 36, 37, 38, 39, 40, 41, 42, 43, 44, 45, 46, 47] (by decide +kernel) (by decide +kernel)
set_option maxRecDepth 20000 in
theorem gX9_sum_X9_sumOfOpen : GoodIn wsX9_sum (wsV RX9 129 RX9 yX9_sumOfOpen wsX9_sumOfOpen) := goodIn_app (goodIn_of _ (by decide +kernel)) ggX9_sum_X9_sumOfOpen
set_option maxRecDepth 20000 in
theorem ggX9_sum_X9_refuse : GoodIn wsX9_sum wsX9_refuse := goodIn_r _ [24, 25, 26, 27, 28, 29, 30, 31, 32, 33, 34, 35, 36, 37, 38, 39, 40, 41, 42, 43, 44, 45, 46, 47] (by decide +kernel) (by decide +kernel)
set_option maxRecDepth 20000 in
theorem gX9_sum_X9_refuse : GoodIn wsX9_sum (wsV RX9 55 RX9 yX9_refuse wsX9_refuse) := goodIn_app (goodIn_of _ (by decide +kernel)) ggX9_sum_X9_refuse
theorem dX9_sum_0 : decode cX9_sum 0 = .ok (.aload_n 0, 1) := by decide +kernel
theorem dX9_sum_1 : decode cX9_sum 1 = .ok (.iload_n 1, 1) := by decide +kernel
theorem dX9_sum_2 : decode cX9_sum 2 = .ok (.invokevirtual 49, 3) := by decide +kernel
theorem dX9_sum_5 : decode cX9_sum 5 = .ok (.ifCond .eq 11, 3) := by decide +kernel
theorem dX9_sum_8 : decode cX9_sum 8 = .ok (.aload_n 0, 1) := by decide +kernel
theorem dX9_sum_9 : decode cX9_sum 9 = .ok (.iload_n 1, 1) := by decide +kernel
theorem dX9_sum_10 : decode cX9_sum 10 = .ok (.invokevirtual 129, 3) := by decide +kernel
theorem dX9_sum_13 : decode cX9_sum 13 = .ok (.goto 7, 3) := by decide +kernel
theorem dX9_sum_16 : decode cX9_sum 16 = .ok (.aload_n 0, 1) := by decide +kernel
theorem dX9_sum_17 : decode cX9_sum 17 = .ok (.invokevirtual 55, 3) := by decide +kernel
theorem dX9_sum_20 : decode cX9_sum 20 = .ok (.ireturn, 1) := by decide +kernel
set_option maxRecDepth 20000 in
theorem ggX9_findLeft_X9_nearestOf : GoodIn wsX9_findLeft wsX9_nearestOf := goodIn_r _ [7, 1, 8, 9, 10, 11, 6, 12, 13, 14, 15, 16, 17, 18, 19, 20, 21, 22, 23, 24, 25, 26, 27, 28, 29, 30, 31, 32, 33, 34, 35, 36] (by decide +kernel) (by decide +kernel)
set_option maxRecDepth 20000 in
theorem gX9_findLeft_X9_nearestOf : GoodIn wsX9_findLeft (wsV RX9 121 RX9 yX9_nearestOf wsX9_nearestOf) := goodIn_app (goodIn_of _ (by decide +kernel)) ggX9_findLeft_X9_nearestOf
set_option maxRecDepth 20000 in
theorem ggX9_findLeft_X9_farFrom : GoodIn wsX9_findLeft wsX9_farFrom := goodIn_r _ [12, 13, 14, 15, 16, 17, 18, 19, 20, 21, 22, 23, 24, 25, 26, 27, 28, 29, 30, 31, 32, 33, 34, 35, 36] (by decide +kernel) (by decide +kernel)
set_option maxRecDepth 20000 in
theorem gX9_findLeft_X9_farFrom : GoodIn wsX9_findLeft (wsV RX9 99 RX9 yX9_farFrom wsX9_farFrom) := goodIn_app (goodIn_of _ (by decide +kernel)) ggX9_findLeft_X9_farFrom
theorem dX9_findLeft_0 : decode cX9_findLeft 0 = .ok (.iconst (-1), 1) := by decide +kernel
theorem dX9_findLeft_1 : decode cX9_findLeft 1 = .ok (.istore_n 1, 1) := by decide +kernel
theorem dX9_findLeft_2 : decode cX9_findLeft 2 = .ok (.iconst 0, 1) := by decide +kernel
theorem dX9_findLeft_3 : decode cX9_findLeft 3 = .ok (.istore_n 2, 1) := by decide +kernel
theorem dX9_findLeft_4 : decode cX9_findLeft 4 = .ok (.iload_n 2, 1) := by decide +kernel
theorem dX9_findLeft_5 : decode cX9_findLeft 5 = .ok (.aload_n 0, 1) := by decide +kernel
theorem dX9_findLeft_6 : decode cX9_findLeft 6 = .ok (.getfield 35, 3) := by decide +kernel
theorem dX9_findLeft_9 : decode cX9_findLeft 9 = .ok (.if_icmp .ge 63, 3) := by decide +kernel
theorem dX9_findLeft_12 : decode cX9_findLeft 12 = .ok (.aload_n 0, 1) := by decide +kernel
theorem dX9_findLeft_13 : decode cX9_findLeft 13 = .ok (.iload_n 2, 1) := by decide +kernel
theorem dX9_findLeft_14 : decode cX9_findLeft 14 = .ok (.invokevirtual 121, 3) := by decide +kernel
theorem dX9_findLeft_17 : decode cX9_findLeft 17 = .ok (.istore_n 3, 1) := by decide +kernel
theorem dX9_findLeft_18 : decode cX9_findLeft 18 = .ok (.iload_n 3, 1) := by decide +kernel
theorem dX9_findLeft_19 : decode cX9_findLeft 19 = .ok (.iconst (-1), 1) := by decide +kernel
theorem dX9_findLeft_20 : decode cX9_findLeft 20 = .ok (.if_icmp .ne 7, 3) := by decide +kernel
theorem dX9_findLeft_23 : decode cX9_findLeft 23 = .ok (.iconst (-1), 1) := by decide +kernel
theorem dX9_findLeft_24 : decode cX9_findLeft 24 = .ok (.goto 9, 3) := by decide +kernel
theorem dX9_findLeft_27 : decode cX9_findLeft 27 = .ok (.aload_n 0, 1) := by decide +kernel
theorem dX9_findLeft_28 : decode cX9_findLeft 28 = .ok (.iload_n 3, 1) := by decide +kernel
theorem dX9_findLeft_29 : decode cX9_findLeft 29 = .ok (.iload_n 2, 1) := by decide +kernel
theorem dX9_findLeft_30 : decode cX9_findLeft 30 = .ok (.invokevirtual 99, 3) := by decide +kernel
theorem dX9_findLeft_33 : decode cX9_findLeft 33 = .ok (.istore 4, 2) := by decide +kernel
theorem dX9_findLeft_35 : decode cX9_findLeft 35 = .ok (.aload_n 0, 1) := by decide +kernel
theorem dX9_findLeft_36 : decode cX9_findLeft 36 = .ok (.iload 4, 2) := by decide +kernel
theorem dX9_findLeft_38 : decode cX9_findLeft 38 = .ok (.iload_n 1, 1) := by decide +kernel
theorem dX9_findLeft_39 : decode cX9_findLeft 39 = .ok (.if_icmp .le 7, 3) := by decide +kernel
theorem dX9_findLeft_42 : decode cX9_findLeft 42 = .ok (.iload_n 2, 1) := by decide +kernel
theorem dX9_findLeft_43 : decode cX9_findLeft 43 = .ok (.goto 7, 3) := by decide +kernel
theorem dX9_findLeft_46 : decode cX9_findLeft 46 = .ok (.aload_n 0, 1) := by decide +kernel
theorem dX9_findLeft_47 : decode cX9_findLeft 47 = .ok (.getfield 132, 3) := by decide +kernel
theorem dX9_findLeft_50 : decode cX9_findLeft 50 = .ok (.putfield 132, 3) := by decide +kernel
theorem dX9_findLeft_53 : decode cX9_findLeft 53 = .ok (.iload 4, 2) := by decide +kernel
theorem dX9_findLeft_55 : decode cX9_findLeft 55 = .ok (.iload_n 1, 1) := by decide +kernel
theorem dX9_findLeft_56 : decode cX9_findLeft 56 = .ok (.if_icmp .le 8, 3) := by decide +kernel
theorem dX9_findLeft_59 : decode cX9_findLeft 59 = .ok (.iload 4, 2) := by decide +kernel
theorem dX9_findLeft_61 : decode cX9_findLeft 61 = .ok (.goto 4, 3) := by decide +kernel
theorem dX9_findLeft_64 : decode cX9_findLeft 64 = .ok (.iload_n 1, 1) := by decide +kernel
theorem dX9_findLeft_65 : decode cX9_findLeft 65 = .ok (.istore_n 1, 1) := by decide +kernel
theorem dX9_findLeft_66 : decode cX9_findLeft 66 = .ok (.iinc 2 1, 3) := by decide +kernel
theorem dX9_findLeft_69 : decode cX9_findLeft 69 = .ok (.goto (-65), 3) := by decide +kernel
theorem dX9_findLeft_72 : decode cX9_findLeft 72 = .ok (.iload_n 1, 1) := by decide +kernel
theorem dX9_findLeft_73 : decode cX9_findLeft 73 = .ok (.ireturn, 1) := by decide +kernel
set_option maxRecDepth 20000 in
theorem ggX9_left_X9_in : GoodIn wsX9_left wsX9_in := goodIn_r _ [5] (by decide +kernel) (by decide +kernel)
set_option maxRecDepth 20000 in
theorem gX9_left_X9_in : GoodIn wsX9_left (va_wsS RX9 39 yX9_in wsX9_in) := goodIn_app (goodIn_of _ (by decide +kernel)) ggX9_left_X9_in
set_option maxRecDepth 20000 in
theorem ggX9_left_X9_refuse : GoodIn wsX9_left wsX9_refuse := goodIn_r _ [9, 10, 27, 28, 29, 30, 31, 32, 33, 34, 35, 36, 37, 38, 39, 40, 41, 42, 43, 44, 45, 46, 47, 48] (by decide +kernel) (by decide +kernel)
set_option maxRecDepth 20000 in
theorem gX9_left_X9_refuse : GoodIn wsX9_left (wsV RX9 55 RX9 yX9_refuse wsX9_refuse) := goodIn_app (goodIn_of _ (by decide +kernel)) ggX9_left_X9_refuse
set_option maxRecDepth 20000 in
theorem ggX9_left_X9_findLeft : GoodIn wsX9_left wsX9_findLeft := goodIn_r _ [14, 15, 1, 16, 17, 18, 4, 19, 20, 21, 22, 23, 24, 25, 26, 27, 28, 29, 30, 31, 32, 33, 34, 35, 36, 37, 38, 39, 40, 41, 42, 43, 44, 45, 46, 47, 48] (by decide +kernel) (by decide +kernel)
set_option maxRecDepth 20000 in
theorem gX9_left_X9_findLeft : GoodIn wsX9_left (wsV RX9 135 RX9 yX9_findLeft wsX9_findLeft) := goodIn_app (goodIn_of _ (by decide +kernel)) ggX9_left_X9_findLeft
theorem dX9_left_0 : decode cX9_left 0 = .ok (.iload_n 1, 1) := by decide +kernel
theorem dX9_left_1 : decode cX9_left 1 = .ok (.i2l, 1) := by decide +kernel
theorem dX9_left_2 : decode cX9_left 2 = .ok (.lconst 0, 1) := by decide +kernel
theorem dX9_left_3 : decode cX9_left 3 = .ok (.lconst 1, 1) := by decide +kernel
theorem dX9_left_4 : decode cX9_left 4 = .ok (.invokestatic 39, 3) := by decide +kernel
theorem dX9_left_7 : decode cX9_left 7 = .ok (.ifCond .ne 8, 3) := by decide +kernel
theorem dX9_left_10 : decode cX9_left 10 = .ok (.aload_n 0, 1) := by decide +kernel
theorem dX9_left_11 : decode cX9_left 11 = .ok (.invokevirtual 55, 3) := by decide +kernel
theorem dX9_left_14 : decode cX9_left 14 = .ok (.ireturn, 1) := by decide +kernel
theorem dX9_left_15 : decode cX9_left 15 = .ok (.aload_n 0, 1) := by decide +kernel
theorem dX9_left_16 : decode cX9_left 16 = .ok (.invokevirtual 135, 3) := by decide +kernel
theorem dX9_left_19 : decode cX9_left 19 = .ok (.istore_n 2, 1) := by decide +kernel
theorem dX9_left_20 : decode cX9_left 20 = .ok (.iload_n 1, 1) := by decide +kernel
theorem dX9_left_21 : decode cX9_left 21 = .ok (.ifCond .eq 8, 3) := by decide +kernel
theorem dX9_left_24 : decode cX9_left 24 = .ok (.iload_n 2, 1) := by decide +kernel
theorem dX9_left_25 : decode cX9_left 25 = .ok (.iconst (-1), 1) := by decide +kernel
theorem dX9_left_26 : decode cX9_left 26 = .ok (.if_icmp .ne 7, 3) := by decide +kernel
theorem dX9_left_29 : decode cX9_left 29 = .ok (.iload_n 2, 1) := by decide +kernel
theorem dX9_left_30 : decode cX9_left 30 = .ok (.goto 7, 3) := by decide +kernel
theorem dX9_left_33 : decode cX9_left 33 = .ok (.aload_n 0, 1) := by decide +kernel
theorem dX9_left_34 : decode cX9_left 34 = .ok (.getfield 132, 3) := by decide +kernel
theorem dX9_left_37 : decode cX9_left 37 = .ok (.ireturn, 1) := by decide +kernel
set_option maxRecDepth 20000 in
theorem ggX9_more_X9_in : GoodIn wsX9_more wsX9_in := goodIn_r _ [6] (by decide +kernel) (by decide +kernel)
set_option maxRecDepth 20000 in
theorem gX9_more_X9_in : GoodIn wsX9_more (va_wsS RX9 39 yX9_in wsX9_in) := goodIn_app (goodIn_of _ (by decide +kernel)) ggX9_more_X9_in
set_option maxRecDepth 20000 in
theorem ggX9_more_X9_refuse : GoodIn wsX9_more wsX9_refuse := goodIn_r _ [10, 11, 27, 28, 29, 30, 31, 32, 33, 34, 35, 36, 37, 38, 39, 40, 41, 42, 43, 44, 45, 46, 47, 48] (by decide +kernel) (by decide +kernel)
set_option maxRecDepth 20000 in
theorem gX9_more_X9_refuse : GoodIn wsX9_more (wsV RX9 55 RX9 yX9_refuse wsX9_refuse) := goodIn_app (goodIn_of _ (by decide +kernel)) ggX9_more_X9_refuse
set_option maxRecDepth 20000 in
theorem ggX9_more_X9_findLeft : GoodIn wsX9_more wsX9_findLeft := goodIn_r _ [15, 1, 16, 17, 18, 19, 5, 20, 2, 21, 22, 23, 24, 25, 26, 27, 28, 29, 30, 31, 32, 33, 34, 35, 36, 37, 38, 39, 40, 41, 42, 43, 44, 45, 46, 47, 48] (by decide +kernel) (by decide +kernel)
set_option maxRecDepth 20000 in
theorem gX9_more_X9_findLeft : GoodIn wsX9_more (wsV RX9 135 RX9 yX9_findLeft wsX9_findLeft) := goodIn_app (goodIn_of _ (by decide +kernel)) ggX9_more_X9_findLeft
theorem dX9_more_0 : decode cX9_more 0 = .ok (.iload_n 1, 1) := by decide +kernel
theorem dX9_more_1 : decode cX9_more 1 = .ok (.i2l, 1) := by decide +kernel
theorem dX9_more_2 : decode cX9_more 2 = .ok (.lconst 0, 1) := by decide +kernel
theorem dX9_more_3 : decode cX9_more 3 = .ok (.lconst 1, 1) := by decide +kernel
theorem dX9_more_4 : decode cX9_more 4 = .ok (.invokestatic 39, 3) := by decide +kernel
theorem dX9_more_7 : decode cX9_more 7 = .ok (.ifCond .ne 8, 3) := by decide +kernel
theorem dX9_more_10 : decode cX9_more 10 = .ok (.aload_n 0, 1) := by decide +kernel
theorem dX9_more_11 : decode cX9_more 11 = .ok (.invokevirtual 55, 3) := by decide +kernel
theorem dX9_more_14 : decode cX9_more 14 = .ok (.ireturn, 1) := by decide +kernel
theorem dX9_more_15 : decode cX9_more 15 = .ok (.iconst (-1), 1) := by decide +kernel
theorem dX9_more_16 : decode cX9_more 16 = .ok (.istore_n 2, 1) := by decide +kernel
theorem dX9_more_17 : decode cX9_more 17 = .ok (.iconst (-1), 1) := by decide +kernel
theorem dX9_more_18 : decode cX9_more 18 = .ok (.istore_n 3, 1) := by decide +kernel
theorem dX9_more_19 : decode cX9_more 19 = .ok (.iconst 0, 1) := by decide +kernel
theorem dX9_more_20 : decode cX9_more 20 = .ok (.istore 4, 2) := by decide +kernel
theorem dX9_more_22 : decode cX9_more 22 = .ok (.iload 4, 2) := by decide +kernel
theorem dX9_more_24 : decode cX9_more 24 = .ok (.aload_n 0, 1) := by decide +kernel
theorem dX9_more_25 : decode cX9_more 25 = .ok (.getfield 35, 3) := by decide +kernel
theorem dX9_more_28 : decode cX9_more 28 = .ok (.if_icmp .ge 77, 3) := by decide +kernel
theorem dX9_more_31 : decode cX9_more 31 = .ok (.aload_n 0, 1) := by decide +kernel
theorem dX9_more_32 : decode cX9_more 32 = .ok (.getfield 16, 3) := by decide +kernel
theorem dX9_more_35 : decode cX9_more 35 = .ok (.iload 4, 2) := by decide +kernel
theorem dX9_more_37 : decode cX9_more 37 = .ok (.baload, 1) := by decide +kernel
theorem dX9_more_38 : decode cX9_more 38 = .ok (.ifCond .ne 61, 3) := by decide +kernel
theorem dX9_more_41 : decode cX9_more 41 = .ok (.aload_n 0, 1) := by decide +kernel
theorem dX9_more_42 : decode cX9_more 42 = .ok (.getfield 16, 3) := by decide +kernel
theorem dX9_more_45 : decode cX9_more 45 = .ok (.iload 4, 2) := by decide +kernel
theorem dX9_more_47 : decode cX9_more 47 = .ok (.iconst 1, 1) := by decide +kernel
theorem dX9_more_48 : decode cX9_more 48 = .ok (.bastore, 1) := by decide +kernel
theorem dX9_more_49 : decode cX9_more 49 = .ok (.aload_n 0, 1) := by decide +kernel
theorem dX9_more_50 : decode cX9_more 50 = .ok (.invokevirtual 135, 3) := by decide +kernel
theorem dX9_more_53 : decode cX9_more 53 = .ok (.istore 5, 2) := by decide +kernel
theorem dX9_more_55 : decode cX9_more 55 = .ok (.aload_n 0, 1) := by decide +kernel
theorem dX9_more_56 : decode cX9_more 56 = .ok (.getfield 16, 3) := by decide +kernel
theorem dX9_more_59 : decode cX9_more 59 = .ok (.iload 4, 2) := by decide +kernel
theorem dX9_more_61 : decode cX9_more 61 = .ok (.iconst 0, 1) := by decide +kernel
theorem dX9_more_62 : decode cX9_more 62 = .ok (.bastore, 1) := by decide +kernel
theorem dX9_more_63 : decode cX9_more 63 = .ok (.iload_n 3, 1) := by decide +kernel
theorem dX9_more_64 : decode cX9_more 64 = .ok (.iconst (-1), 1) := by decide +kernel
theorem dX9_more_65 : decode cX9_more 65 = .ok (.if_icmp .eq 9, 3) := by decide +kernel
theorem dX9_more_68 : decode cX9_more 68 = .ok (.iload 5, 2) := by decide +kernel
theorem dX9_more_70 : decode cX9_more 70 = .ok (.iload_n 3, 1) := by decide +kernel
theorem dX9_more_71 : decode cX9_more 71 = .ok (.if_icmp .ge 8, 3) := by decide +kernel
theorem dX9_more_74 : decode cX9_more 74 = .ok (.iload 4, 2) := by decide +kernel
theorem dX9_more_76 : decode cX9_more 76 = .ok (.goto 4, 3) := by decide +kernel
theorem dX9_more_79 : decode cX9_more 79 = .ok (.iload_n 2, 1) := by decide +kernel
theorem dX9_more_80 : decode cX9_more 80 = .ok (.istore_n 2, 1) := by decide +kernel
theorem dX9_more_81 : decode cX9_more 81 = .ok (.iload_n 3, 1) := by decide +kernel
theorem dX9_more_82 : decode cX9_more 82 = .ok (.iconst (-1), 1) := by decide +kernel
theorem dX9_more_83 : decode cX9_more 83 = .ok (.if_icmp .eq 9, 3) := by decide +kernel
theorem dX9_more_86 : decode cX9_more 86 = .ok (.iload 5, 2) := by decide +kernel
theorem dX9_more_88 : decode cX9_more 88 = .ok (.iload_n 3, 1) := by decide +kernel
theorem dX9_more_89 : decode cX9_more 89 = .ok (.if_icmp .ge 8, 3) := by decide +kernel
theorem dX9_more_92 : decode cX9_more 92 = .ok (.iload 5, 2) := by decide +kernel
theorem dX9_more_94 : decode cX9_more 94 = .ok (.goto 4, 3) := by decide +kernel
theorem dX9_more_97 : decode cX9_more 97 = .ok (.iload_n 3, 1) := by decide +kernel
theorem dX9_more_98 : decode cX9_more 98 = .ok (.istore_n 3, 1) := by decide +kernel
theorem dX9_more_99 : decode cX9_more 99 = .ok (.iinc 4 1, 3) := by decide +kernel
theorem dX9_more_102 : decode cX9_more 102 = .ok (.goto (-80), 3) := by decide +kernel
theorem dX9_more_105 : decode cX9_more 105 = .ok (.iload_n 1, 1) := by decide +kernel
theorem dX9_more_106 : decode cX9_more 106 = .ok (.ifCond .ne 7, 3) := by decide +kernel
theorem dX9_more_109 : decode cX9_more 109 = .ok (.iload_n 2, 1) := by decide +kernel
theorem dX9_more_110 : decode cX9_more 110 = .ok (.goto 4, 3) := by decide +kernel
theorem dX9_more_113 : decode cX9_more 113 = .ok (.iload_n 3, 1) := by decide +kernel
theorem dX9_more_114 : decode cX9_more 114 = .ok (.ireturn, 1) := by decide +kernel
set_option maxRecDepth 20000 in
theorem ggX9_serves_X9_isVillage : GoodIn wsX9_serves wsX9_isVillage := goodIn_r _ [7, 2, 8, 9, 6, 10, 26, 27, 28, 29, 30, 31, 32, 33, 34, 35, 36, 37, 38, 39, 40, 41, 42, 43, 44, 45, 46, 47] (by decide +kernel) (by decide +kernel)
set_option maxRecDepth 20000 in
theorem gX9_serves_X9_isVillage : GoodIn wsX9_serves (wsV RX9 49 RX9 yX9_isVillage wsX9_isVillage) := goodIn_app (goodIn_of _ (by decide +kernel)) ggX9_serves_X9_isVillage
set_option maxRecDepth 20000 in
theorem ggX9_serves_X9_refuse : GoodIn wsX9_serves wsX9_refuse := goodIn_r _ [14, 15, 26, 27, 28, 29, 30, 31, 32, 33, 34, 35, 36, 37, 38, 39, 40, 41, 42, 43, 44, 45, 46, 47] (by decide +kernel) (by decide +kernel)
set_option maxRecDepth 20000 in
theorem gX9_serves_X9_refuse : GoodIn wsX9_serves (wsV RX9 55 RX9 yX9_refuse wsX9_refuse) := goodIn_app (goodIn_of _ (by decide +kernel)) ggX9_serves_X9_refuse
set_option maxRecDepth 20000 in
theorem ggX9_serves_X9_nearestOf : GoodIn wsX9_serves wsX9_nearestOf := goodIn_r _ [19, 2, 1, 20, 21, 22, 6, 23, 24, 25, 26, 27, 28, 29, 30, 31, 32, 33, 34, 35, 36, 37, 38, 39, 40, 41, 42, 43, 44, 45, 46, 47] (by decide +kernel) (by decide +kernel)
set_option maxRecDepth 20000 in
theorem gX9_serves_X9_nearestOf : GoodIn wsX9_serves (wsV RX9 121 RX9 yX9_nearestOf wsX9_nearestOf) := goodIn_app (goodIn_of _ (by decide +kernel)) ggX9_serves_X9_nearestOf
theorem dX9_serves_0 : decode cX9_serves 0 = .ok (.aload_n 0, 1) := by decide +kernel
theorem dX9_serves_1 : decode cX9_serves 1 = .ok (.iload_n 1, 1) := by decide +kernel
theorem dX9_serves_2 : decode cX9_serves 2 = .ok (.invokevirtual 49, 3) := by decide +kernel
theorem dX9_serves_5 : decode cX9_serves 5 = .ok (.ifCond .ne 8, 3) := by decide +kernel
theorem dX9_serves_8 : decode cX9_serves 8 = .ok (.aload_n 0, 1) := by decide +kernel
theorem dX9_serves_9 : decode cX9_serves 9 = .ok (.invokevirtual 55, 3) := by decide +kernel
theorem dX9_serves_12 : decode cX9_serves 12 = .ok (.ireturn, 1) := by decide +kernel
theorem dX9_serves_13 : decode cX9_serves 13 = .ok (.aload_n 0, 1) := by decide +kernel
theorem dX9_serves_14 : decode cX9_serves 14 = .ok (.getfield 16, 3) := by decide +kernel
theorem dX9_serves_17 : decode cX9_serves 17 = .ok (.iload_n 1, 1) := by decide +kernel
theorem dX9_serves_18 : decode cX9_serves 18 = .ok (.baload, 1) := by decide +kernel
theorem dX9_serves_19 : decode cX9_serves 19 = .ok (.istore_n 2, 1) := by decide +kernel
theorem dX9_serves_20 : decode cX9_serves 20 = .ok (.iconst 0, 1) := by decide +kernel
theorem dX9_serves_21 : decode cX9_serves 21 = .ok (.istore_n 3, 1) := by decide +kernel
theorem dX9_serves_22 : decode cX9_serves 22 = .ok (.aload_n 0, 1) := by decide +kernel
theorem dX9_serves_23 : decode cX9_serves 23 = .ok (.getfield 16, 3) := by decide +kernel
theorem dX9_serves_26 : decode cX9_serves 26 = .ok (.iload_n 1, 1) := by decide +kernel
theorem dX9_serves_27 : decode cX9_serves 27 = .ok (.iconst 1, 1) := by decide +kernel
theorem dX9_serves_28 : decode cX9_serves 28 = .ok (.bastore, 1) := by decide +kernel
theorem dX9_serves_29 : decode cX9_serves 29 = .ok (.iconst 0, 1) := by decide +kernel
theorem dX9_serves_30 : decode cX9_serves 30 = .ok (.istore 4, 2) := by decide +kernel
theorem dX9_serves_32 : decode cX9_serves 32 = .ok (.iload 4, 2) := by decide +kernel
theorem dX9_serves_34 : decode cX9_serves 34 = .ok (.aload_n 0, 1) := by decide +kernel
theorem dX9_serves_35 : decode cX9_serves 35 = .ok (.getfield 35, 3) := by decide +kernel
theorem dX9_serves_38 : decode cX9_serves 38 = .ok (.if_icmp .ge 27, 3) := by decide +kernel
theorem dX9_serves_41 : decode cX9_serves 41 = .ok (.iload_n 3, 1) := by decide +kernel
theorem dX9_serves_42 : decode cX9_serves 42 = .ok (.aload_n 0, 1) := by decide +kernel
theorem dX9_serves_43 : decode cX9_serves 43 = .ok (.iload 4, 2) := by decide +kernel
theorem dX9_serves_45 : decode cX9_serves 45 = .ok (.invokevirtual 121, 3) := by decide +kernel
theorem dX9_serves_48 : decode cX9_serves 48 = .ok (.iload_n 1, 1) := by decide +kernel
theorem dX9_serves_49 : decode cX9_serves 49 = .ok (.if_icmp .ne 7, 3) := by decide +kernel
theorem dX9_serves_52 : decode cX9_serves 52 = .ok (.iconst 1, 1) := by decide +kernel
theorem dX9_serves_53 : decode cX9_serves 53 = .ok (.goto 4, 3) := by decide +kernel
theorem dX9_serves_56 : decode cX9_serves 56 = .ok (.iconst 0, 1) := by decide +kernel
theorem dX9_serves_57 : decode cX9_serves 57 = .ok (.iadd, 1) := by decide +kernel
theorem dX9_serves_58 : decode cX9_serves 58 = .ok (.istore_n 3, 1) := by decide +kernel
theorem dX9_serves_59 : decode cX9_serves 59 = .ok (.iinc 4 1, 3) := by decide +kernel
theorem dX9_serves_62 : decode cX9_serves 62 = .ok (.goto (-30), 3) := by decide +kernel
theorem dX9_serves_65 : decode cX9_serves 65 = .ok (.aload_n 0, 1) := by decide +kernel
theorem dX9_serves_66 : decode cX9_serves 66 = .ok (.getfield 16, 3) := by decide +kernel
theorem dX9_serves_69 : decode cX9_serves 69 = .ok (.iload_n 1, 1) := by decide +kernel
theorem dX9_serves_70 : decode cX9_serves 70 = .ok (.iload_n 2, 1) := by decide +kernel
theorem dX9_serves_71 : decode cX9_serves 71 = .ok (.bastore, 1) := by decide +kernel
theorem dX9_serves_72 : decode cX9_serves 72 = .ok (.iload_n 3, 1) := by decide +kernel
theorem dX9_serves_73 : decode cX9_serves 73 = .ok (.ireturn, 1) := by decide +kernel
set_option maxRecDepth 20000 in
theorem ggX9_pair_X9_in : GoodIn wsX9_pair wsX9_in := goodIn_r _ [7] (by decide +kernel) (by decide +kernel)
set_option maxRecDepth 20000 in
theorem gX9_pair_X9_in : GoodIn wsX9_pair (va_wsS RX9 39 yX9_in wsX9_in) := goodIn_app (goodIn_of _ (by decide +kernel)) ggX9_pair_X9_in
set_option maxRecDepth 20000 in
theorem ggX9_pair_X9_refuse : GoodIn wsX9_pair wsX9_refuse := goodIn_r _ [11, 12, 19, 20, 21, 22, 23, 24, 25, 26, 27, 28, 29, 30, 31, 32, 33, 34, 35, 36, 37, 38, 39, 40] (by decide +kernel) (by decide +kernel)
set_option maxRecDepth 20000 in
theorem gX9_pair_X9_refuse : GoodIn wsX9_pair (wsV RX9 55 RX9 yX9_refuse wsX9_refuse) := goodIn_app (goodIn_of _ (by decide +kernel)) ggX9_pair_X9_refuse
set_option maxRecDepth 20000 in
theorem ggX9_pair_X9_farFrom : GoodIn wsX9_pair wsX9_farFrom := goodIn_r _ [16, 17, 18, 19, 20, 21, 22, 23, 24, 25, 26, 27, 28, 29, 30, 31, 32, 33, 34, 35, 36, 37, 38, 39, 40] (by decide +kernel) (by decide +kernel)
set_option maxRecDepth 20000 in
theorem gX9_pair_X9_farFrom : GoodIn wsX9_pair (wsV RX9 99 RX9 yX9_farFrom wsX9_farFrom) := goodIn_app (goodIn_of _ (by decide +kernel)) ggX9_pair_X9_farFrom
theorem dX9_pair_0 : decode cX9_pair 0 = .ok (.iload_n 1, 1) := by decide +kernel
theorem dX9_pair_1 : decode cX9_pair 1 = .ok (.i2l, 1) := by decide +kernel
theorem dX9_pair_2 : decode cX9_pair 2 = .ok (.lconst 0, 1) := by decide +kernel
theorem dX9_pair_3 : decode cX9_pair 3 = .ok (.ldc2_w 109, 3) := by decide +kernel
theorem dX9_pair_6 : decode cX9_pair 6 = .ok (.invokestatic 39, 3) := by decide +kernel
theorem dX9_pair_9 : decode cX9_pair 9 = .ok (.ifCond .ne 8, 3) := by decide +kernel
theorem dX9_pair_12 : decode cX9_pair 12 = .ok (.aload_n 0, 1) := by decide +kernel
theorem dX9_pair_13 : decode cX9_pair 13 = .ok (.invokevirtual 55, 3) := by decide +kernel
theorem dX9_pair_16 : decode cX9_pair 16 = .ok (.ireturn, 1) := by decide +kernel
theorem dX9_pair_17 : decode cX9_pair 17 = .ok (.iconst (-1), 1) := by decide +kernel
theorem dX9_pair_18 : decode cX9_pair 18 = .ok (.istore_n 2, 1) := by decide +kernel
theorem dX9_pair_19 : decode cX9_pair 19 = .ok (.iconst (-1), 1) := by decide +kernel
theorem dX9_pair_20 : decode cX9_pair 20 = .ok (.istore_n 3, 1) := by decide +kernel
theorem dX9_pair_21 : decode cX9_pair 21 = .ok (.iconst (-1), 1) := by decide +kernel
theorem dX9_pair_22 : decode cX9_pair 22 = .ok (.istore 4, 2) := by decide +kernel
theorem dX9_pair_24 : decode cX9_pair 24 = .ok (.iconst 0, 1) := by decide +kernel
theorem dX9_pair_25 : decode cX9_pair 25 = .ok (.istore 5, 2) := by decide +kernel
theorem dX9_pair_27 : decode cX9_pair 27 = .ok (.iload 5, 2) := by decide +kernel
theorem dX9_pair_29 : decode cX9_pair 29 = .ok (.aload_n 0, 1) := by decide +kernel
theorem dX9_pair_30 : decode cX9_pair 30 = .ok (.getfield 35, 3) := by decide +kernel
theorem dX9_pair_33 : decode cX9_pair 33 = .ok (.if_icmp .ge 85, 3) := by decide +kernel
theorem dX9_pair_36 : decode cX9_pair 36 = .ok (.iload 5, 2) := by decide +kernel
theorem dX9_pair_38 : decode cX9_pair 38 = .ok (.iconst 1, 1) := by decide +kernel
theorem dX9_pair_39 : decode cX9_pair 39 = .ok (.iadd, 1) := by decide +kernel
theorem dX9_pair_40 : decode cX9_pair 40 = .ok (.istore 6, 2) := by decide +kernel
theorem dX9_pair_42 : decode cX9_pair 42 = .ok (.iload 6, 2) := by decide +kernel
theorem dX9_pair_44 : decode cX9_pair 44 = .ok (.aload_n 0, 1) := by decide +kernel
theorem dX9_pair_45 : decode cX9_pair 45 = .ok (.getfield 35, 3) := by decide +kernel
theorem dX9_pair_48 : decode cX9_pair 48 = .ok (.if_icmp .ge 64, 3) := by decide +kernel
theorem dX9_pair_51 : decode cX9_pair 51 = .ok (.aload_n 0, 1) := by decide +kernel
theorem dX9_pair_52 : decode cX9_pair 52 = .ok (.getfield 16, 3) := by decide +kernel
theorem dX9_pair_55 : decode cX9_pair 55 = .ok (.iload 5, 2) := by decide +kernel
theorem dX9_pair_57 : decode cX9_pair 57 = .ok (.baload, 1) := by decide +kernel
theorem dX9_pair_58 : decode cX9_pair 58 = .ok (.ifCond .eq 48, 3) := by decide +kernel
theorem dX9_pair_61 : decode cX9_pair 61 = .ok (.aload_n 0, 1) := by decide +kernel
theorem dX9_pair_62 : decode cX9_pair 62 = .ok (.getfield 16, 3) := by decide +kernel
theorem dX9_pair_65 : decode cX9_pair 65 = .ok (.iload 6, 2) := by decide +kernel
theorem dX9_pair_67 : decode cX9_pair 67 = .ok (.baload, 1) := by decide +kernel
theorem dX9_pair_68 : decode cX9_pair 68 = .ok (.ifCond .eq 38, 3) := by decide +kernel
theorem dX9_pair_71 : decode cX9_pair 71 = .ok (.iload 4, 2) := by decide +kernel
theorem dX9_pair_73 : decode cX9_pair 73 = .ok (.iconst (-1), 1) := by decide +kernel
theorem dX9_pair_74 : decode cX9_pair 74 = .ok (.if_icmp .eq 16, 3) := by decide +kernel
theorem dX9_pair_77 : decode cX9_pair 77 = .ok (.aload_n 0, 1) := by decide +kernel
theorem dX9_pair_78 : decode cX9_pair 78 = .ok (.iload 5, 2) := by decide +kernel
theorem dX9_pair_80 : decode cX9_pair 80 = .ok (.iload 6, 2) := by decide +kernel
theorem dX9_pair_82 : decode cX9_pair 82 = .ok (.invokevirtual 99, 3) := by decide +kernel
theorem dX9_pair_85 : decode cX9_pair 85 = .ok (.iload 4, 2) := by decide +kernel
theorem dX9_pair_87 : decode cX9_pair 87 = .ok (.if_icmp .ge 19, 3) := by decide +kernel
theorem dX9_pair_90 : decode cX9_pair 90 = .ok (.aload_n 0, 1) := by decide +kernel
theorem dX9_pair_91 : decode cX9_pair 91 = .ok (.iload 5, 2) := by decide +kernel
theorem dX9_pair_93 : decode cX9_pair 93 = .ok (.iload 6, 2) := by decide +kernel
theorem dX9_pair_95 : decode cX9_pair 95 = .ok (.invokevirtual 99, 3) := by decide +kernel
theorem dX9_pair_98 : decode cX9_pair 98 = .ok (.istore 4, 2) := by decide +kernel
theorem dX9_pair_100 : decode cX9_pair 100 = .ok (.iload 5, 2) := by decide +kernel
theorem dX9_pair_102 : decode cX9_pair 102 = .ok (.istore_n 2, 1) := by decide +kernel
theorem dX9_pair_103 : decode cX9_pair 103 = .ok (.iload 6, 2) := by decide +kernel
theorem dX9_pair_105 : decode cX9_pair 105 = .ok (.istore_n 3, 1) := by decide +kernel
theorem dX9_pair_106 : decode cX9_pair 106 = .ok (.iinc 6 1, 3) := by decide +kernel
theorem dX9_pair_109 : decode cX9_pair 109 = .ok (.goto (-67), 3) := by decide +kernel
theorem dX9_pair_112 : decode cX9_pair 112 = .ok (.iinc 5 1, 3) := by decide +kernel
theorem dX9_pair_115 : decode cX9_pair 115 = .ok (.goto (-88), 3) := by decide +kernel
theorem dX9_pair_118 : decode cX9_pair 118 = .ok (.iload_n 1, 1) := by decide +kernel
theorem dX9_pair_119 : decode cX9_pair 119 = .ok (.ifCond .ne 8, 3) := by decide +kernel
theorem dX9_pair_122 : decode cX9_pair 122 = .ok (.iload 4, 2) := by decide +kernel
theorem dX9_pair_124 : decode cX9_pair 124 = .ok (.goto 13, 3) := by decide +kernel
theorem dX9_pair_127 : decode cX9_pair 127 = .ok (.iload_n 1, 1) := by decide +kernel
theorem dX9_pair_128 : decode cX9_pair 128 = .ok (.iconst 1, 1) := by decide +kernel
theorem dX9_pair_129 : decode cX9_pair 129 = .ok (.if_icmp .ne 7, 3) := by decide +kernel
theorem dX9_pair_132 : decode cX9_pair 132 = .ok (.iload_n 2, 1) := by decide +kernel
theorem dX9_pair_133 : decode cX9_pair 133 = .ok (.goto 4, 3) := by decide +kernel
theorem dX9_pair_136 : decode cX9_pair 136 = .ok (.iload_n 3, 1) := by decide +kernel
theorem dX9_pair_137 : decode cX9_pair 137 = .ok (.ireturn, 1) := by decide +kernel
set_option maxRecDepth 20000 in
theorem ggX9_type_X9_in : GoodIn wsX9_type wsX9_in := goodIn_r _ [7] (by decide +kernel) (by decide +kernel)
set_option maxRecDepth 20000 in
theorem gX9_type_X9_in : GoodIn wsX9_type (va_wsS RX9 39 yX9_in wsX9_in) := goodIn_app (goodIn_of _ (by decide +kernel)) ggX9_type_X9_in
set_option maxRecDepth 20000 in
theorem ggX9_type_X9_refuse : GoodIn wsX9_type wsX9_refuse := goodIn_r _ [11, 12, 18, 19, 20, 21, 22, 23, 24, 25, 26, 27, 28, 29, 30, 31, 32, 33, 34, 35, 36, 37, 38, 39] (by decide +kernel) (by decide +kernel)
set_option maxRecDepth 20000 in
theorem gX9_type_X9_refuse : GoodIn wsX9_type (wsV RX9 55 RX9 yX9_refuse wsX9_refuse) := goodIn_app (goodIn_of _ (by decide +kernel)) ggX9_type_X9_refuse
set_option maxRecDepth 20000 in
theorem ggX9_type_X9_refuseFull : GoodIn wsX9_type wsX9_refuseFull := goodIn_r _ [16, 17, 18, 19, 20, 21, 22, 23, 24, 25, 26, 27, 28, 29, 30, 31, 32, 33, 34, 35, 36, 37, 38, 39] (by decide +kernel) (by decide +kernel)
set_option maxRecDepth 20000 in
theorem gX9_type_X9_refuseFull : GoodIn wsX9_type (wsV RX9 59 RX9 yX9_refuseFull wsX9_refuseFull) := goodIn_app (goodIn_of _ (by decide +kernel)) ggX9_type_X9_refuseFull
theorem dX9_type_0 : decode cX9_type 0 = .ok (.iload_n 1, 1) := by decide +kernel
theorem dX9_type_1 : decode cX9_type 1 = .ok (.i2l, 1) := by decide +kernel
theorem dX9_type_2 : decode cX9_type 2 = .ok (.lconst 0, 1) := by decide +kernel
theorem dX9_type_3 : decode cX9_type 3 = .ok (.ldc2_w 138, 3) := by decide +kernel
theorem dX9_type_6 : decode cX9_type 6 = .ok (.invokestatic 39, 3) := by decide +kernel
theorem dX9_type_9 : decode cX9_type 9 = .ok (.ifCond .ne 8, 3) := by decide +kernel
theorem dX9_type_12 : decode cX9_type 12 = .ok (.aload_n 0, 1) := by decide +kernel
theorem dX9_type_13 : decode cX9_type 13 = .ok (.invokevirtual 55, 3) := by decide +kernel
theorem dX9_type_16 : decode cX9_type 16 = .ok (.ireturn, 1) := by decide +kernel
theorem dX9_type_17 : decode cX9_type 17 = .ok (.aload_n 0, 1) := by decide +kernel
theorem dX9_type_18 : decode cX9_type 18 = .ok (.getfield 140, 3) := by decide +kernel
theorem dX9_type_21 : decode cX9_type 21 = .ok (.bipush 120, 2) := by decide +kernel
theorem dX9_type_23 : decode cX9_type 23 = .ok (.if_icmp .ne 8, 3) := by decide +kernel
theorem dX9_type_26 : decode cX9_type 26 = .ok (.aload_n 0, 1) := by decide +kernel
theorem dX9_type_27 : decode cX9_type 27 = .ok (.invokevirtual 59, 3) := by decide +kernel
theorem dX9_type_30 : decode cX9_type 30 = .ok (.ireturn, 1) := by decide +kernel
theorem dX9_type_31 : decode cX9_type 31 = .ok (.aload_n 0, 1) := by decide +kernel
theorem dX9_type_32 : decode cX9_type 32 = .ok (.getfield 20, 3) := by decide +kernel
theorem dX9_type_35 : decode cX9_type 35 = .ok (.aload_n 0, 1) := by decide +kernel
theorem dX9_type_36 : decode cX9_type 36 = .ok (.getfield 140, 3) := by decide +kernel
theorem dX9_type_39 : decode cX9_type 39 = .ok (.iload_n 1, 1) := by decide +kernel
theorem dX9_type_40 : decode cX9_type 40 = .ok (.iastore, 1) := by decide +kernel
theorem dX9_type_41 : decode cX9_type 41 = .ok (.aload_n 0, 1) := by decide +kernel
theorem dX9_type_42 : decode cX9_type 42 = .ok (.dup, 1) := by decide +kernel
theorem dX9_type_43 : decode cX9_type 43 = .ok (.getfield 140, 3) := by decide +kernel
theorem dX9_type_46 : decode cX9_type 46 = .ok (.iconst 1, 1) := by decide +kernel
theorem dX9_type_47 : decode cX9_type 47 = .ok (.iadd, 1) := by decide +kernel
theorem dX9_type_48 : decode cX9_type 48 = .ok (.putfield 140, 3) := by decide +kernel
theorem dX9_type_51 : decode cX9_type 51 = .ok (.aload_n 0, 1) := by decide +kernel
theorem dX9_type_52 : decode cX9_type 52 = .ok (.getfield 140, 3) := by decide +kernel
theorem dX9_type_55 : decode cX9_type 55 = .ok (.ireturn, 1) := by decide +kernel
theorem dX9_clear_0 : decode cX9_clear 0 = .ok (.aload_n 0, 1) := by decide +kernel
theorem dX9_clear_1 : decode cX9_clear 1 = .ok (.getfield 140, 3) := by decide +kernel
theorem dX9_clear_4 : decode cX9_clear 4 = .ok (.istore_n 1, 1) := by decide +kernel
theorem dX9_clear_5 : decode cX9_clear 5 = .ok (.aload_n 0, 1) := by decide +kernel
theorem dX9_clear_6 : decode cX9_clear 6 = .ok (.iconst 0, 1) := by decide +kernel
theorem dX9_clear_7 : decode cX9_clear 7 = .ok (.putfield 140, 3) := by decide +kernel
theorem dX9_clear_10 : decode cX9_clear 10 = .ok (.iload_n 1, 1) := by decide +kernel
theorem dX9_clear_11 : decode cX9_clear 11 = .ok (.ireturn, 1) := by decide +kernel
set_option maxRecDepth 20000 in
theorem ggX9_isFigure_X9_in : GoodIn wsX9_isFigure wsX9_in := goodIn_r _ [6] (by decide +kernel) (by decide +kernel)
set_option maxRecDepth 20000 in
theorem gX9_isFigure_X9_in : GoodIn wsX9_isFigure (va_wsS RX9 39 yX9_in wsX9_in) := goodIn_app (goodIn_of _ (by decide +kernel)) ggX9_isFigure_X9_in
theorem dX9_isFigure_0 : decode cX9_isFigure 0 = .ok (.iload_n 0, 1) := by decide +kernel
theorem dX9_isFigure_1 : decode cX9_isFigure 1 = .ok (.i2l, 1) := by decide +kernel
theorem dX9_isFigure_2 : decode cX9_isFigure 2 = .ok (.ldc2_w 143, 3) := by decide +kernel
theorem dX9_isFigure_5 : decode cX9_isFigure 5 = .ok (.ldc2_w 145, 3) := by decide +kernel
theorem dX9_isFigure_8 : decode cX9_isFigure 8 = .ok (.invokestatic 39, 3) := by decide +kernel
theorem dX9_isFigure_11 : decode cX9_isFigure 11 = .ok (.ireturn, 1) := by decide +kernel
set_option maxRecDepth 20000 in
theorem ggX9_isLetter_X9_in : GoodIn wsX9_isLetter wsX9_in := goodIn_r _ [6] (by decide +kernel) (by decide +kernel)
set_option maxRecDepth 20000 in
theorem gX9_isLetter_X9_in : GoodIn wsX9_isLetter (va_wsS RX9 39 yX9_in wsX9_in) := goodIn_app (goodIn_of _ (by decide +kernel)) ggX9_isLetter_X9_in
theorem dX9_isLetter_0 : decode cX9_isLetter 0 = .ok (.iload_n 0, 1) := by decide +kernel
theorem dX9_isLetter_1 : decode cX9_isLetter 1 = .ok (.i2l, 1) := by decide +kernel
theorem dX9_isLetter_2 : decode cX9_isLetter 2 = .ok (.ldc2_w 147, 3) := by decide +kernel
theorem dX9_isLetter_5 : decode cX9_isLetter 5 = .ok (.ldc2_w 149, 3) := by decide +kernel
theorem dX9_isLetter_8 : decode cX9_isLetter 8 = .ok (.invokestatic 39, 3) := by decide +kernel
theorem dX9_isLetter_11 : decode cX9_isLetter 11 = .ok (.ireturn, 1) := by decide +kernel
set_option maxRecDepth 20000 in
theorem ggX9_next_X9_isLetter : GoodIn wsX9_next wsX9_isLetter := goodIn_r _ [10, 11, 12, 13, 14, 9, 15] (by decide +kernel) (by decide +kernel)
set_option maxRecDepth 20000 in
theorem gX9_next_X9_isLetter : GoodIn wsX9_next (va_wsS RX9 163 yX9_isLetter wsX9_isLetter) := goodIn_app (goodIn_of _ (by decide +kernel)) ggX9_next_X9_isLetter
set_option maxRecDepth 20000 in
theorem ggX9_next_X9_isFigure : GoodIn wsX9_next wsX9_isFigure := goodIn_r _ [18, 19, 20, 13, 14, 9, 15] (by decide +kernel) (by decide +kernel)
set_option maxRecDepth 20000 in
theorem gX9_next_X9_isFigure : GoodIn wsX9_next (va_wsS RX9 166 yX9_isFigure wsX9_isFigure) := goodIn_app (goodIn_of _ (by decide +kernel)) ggX9_next_X9_isFigure
theorem dX9_next_0 : decode cX9_next 0 = .ok (.aload_n 0, 1) := by decide +kernel
theorem dX9_next_1 : decode cX9_next 1 = .ok (.getfield 151, 3) := by decide +kernel
theorem dX9_next_4 : decode cX9_next 4 = .ok (.aload_n 0, 1) := by decide +kernel
theorem dX9_next_5 : decode cX9_next 5 = .ok (.getfield 140, 3) := by decide +kernel
theorem dX9_next_8 : decode cX9_next 8 = .ok (.if_icmp .ge 30, 3) := by decide +kernel
theorem dX9_next_11 : decode cX9_next 11 = .ok (.aload_n 0, 1) := by decide +kernel
theorem dX9_next_12 : decode cX9_next 12 = .ok (.getfield 20, 3) := by decide +kernel
theorem dX9_next_15 : decode cX9_next 15 = .ok (.aload_n 0, 1) := by decide +kernel
theorem dX9_next_16 : decode cX9_next 16 = .ok (.getfield 151, 3) := by decide +kernel
theorem dX9_next_19 : decode cX9_next 19 = .ok (.iaload, 1) := by decide +kernel
theorem dX9_next_20 : decode cX9_next 20 = .ok (.bipush 32, 2) := by decide +kernel
theorem dX9_next_22 : decode cX9_next 22 = .ok (.if_icmp .ne 16, 3) := by decide +kernel
theorem dX9_next_25 : decode cX9_next 25 = .ok (.aload_n 0, 1) := by decide +kernel
theorem dX9_next_26 : decode cX9_next 26 = .ok (.dup, 1) := by decide +kernel
theorem dX9_next_27 : decode cX9_next 27 = .ok (.getfield 151, 3) := by decide +kernel
theorem dX9_next_30 : decode cX9_next 30 = .ok (.iconst 1, 1) := by decide +kernel
theorem dX9_next_31 : decode cX9_next 31 = .ok (.iadd, 1) := by decide +kernel
theorem dX9_next_32 : decode cX9_next 32 = .ok (.putfield 151, 3) := by decide +kernel
theorem dX9_next_35 : decode cX9_next 35 = .ok (.goto (-35), 3) := by decide +kernel
theorem dX9_next_38 : decode cX9_next 38 = .ok (.aload_n 0, 1) := by decide +kernel
theorem dX9_next_39 : decode cX9_next 39 = .ok (.aload_n 0, 1) := by decide +kernel
theorem dX9_next_40 : decode cX9_next 40 = .ok (.getfield 151, 3) := by decide +kernel
theorem dX9_next_43 : decode cX9_next 43 = .ok (.putfield 154, 3) := by decide +kernel
theorem dX9_next_46 : decode cX9_next 46 = .ok (.aload_n 0, 1) := by decide +kernel
theorem dX9_next_47 : decode cX9_next 47 = .ok (.iconst 0, 1) := by decide +kernel
theorem dX9_next_48 : decode cX9_next 48 = .ok (.putfield 157, 3) := by decide +kernel
theorem dX9_next_51 : decode cX9_next 51 = .ok (.aload_n 0, 1) := by decide +kernel
theorem dX9_next_52 : decode cX9_next 52 = .ok (.getfield 151, 3) := by decide +kernel
theorem dX9_next_55 : decode cX9_next 55 = .ok (.aload_n 0, 1) := by decide +kernel
theorem dX9_next_56 : decode cX9_next 56 = .ok (.getfield 140, 3) := by decide +kernel
theorem dX9_next_59 : decode cX9_next 59 = .ok (.if_icmp .ne 9, 3) := by decide +kernel
theorem dX9_next_62 : decode cX9_next 62 = .ok (.aload_n 0, 1) := by decide +kernel
theorem dX9_next_63 : decode cX9_next 63 = .ok (.iconst 0, 1) := by decide +kernel
theorem dX9_next_64 : decode cX9_next 64 = .ok (.putfield 160, 3) := by decide +kernel
theorem dX9_next_67 : decode cX9_next 67 = .ok (.return_, 1) := by decide +kernel
theorem dX9_next_68 : decode cX9_next 68 = .ok (.aload_n 0, 1) := by decide +kernel
theorem dX9_next_69 : decode cX9_next 69 = .ok (.getfield 20, 3) := by decide +kernel
theorem dX9_next_72 : decode cX9_next 72 = .ok (.aload_n 0, 1) := by decide +kernel
theorem dX9_next_73 : decode cX9_next 73 = .ok (.getfield 151, 3) := by decide +kernel
theorem dX9_next_76 : decode cX9_next 76 = .ok (.iaload, 1) := by decide +kernel
theorem dX9_next_77 : decode cX9_next 77 = .ok (.istore_n 1, 1) := by decide +kernel
theorem dX9_next_78 : decode cX9_next 78 = .ok (.iconst 0, 1) := by decide +kernel
theorem dX9_next_79 : decode cX9_next 79 = .ok (.istore_n 2, 1) := by decide +kernel
theorem dX9_next_80 : decode cX9_next 80 = .ok (.iload_n 1, 1) := by decide +kernel
theorem dX9_next_81 : decode cX9_next 81 = .ok (.invokestatic 163, 3) := by decide +kernel
theorem dX9_next_84 : decode cX9_next 84 = .ok (.ifCond .eq 95, 3) := by decide +kernel
theorem dX9_next_87 : decode cX9_next 87 = .ok (.aload_n 0, 1) := by decide +kernel
theorem dX9_next_88 : decode cX9_next 88 = .ok (.getfield 151, 3) := by decide +kernel
theorem dX9_next_91 : decode cX9_next 91 = .ok (.aload_n 0, 1) := by decide +kernel
theorem dX9_next_92 : decode cX9_next 92 = .ok (.getfield 140, 3) := by decide +kernel
theorem dX9_next_95 : decode cX9_next 95 = .ok (.if_icmp .ge 68, 3) := by decide +kernel
theorem dX9_next_98 : decode cX9_next 98 = .ok (.aload_n 0, 1) := by decide +kernel
theorem dX9_next_99 : decode cX9_next 99 = .ok (.getfield 20, 3) := by decide +kernel
theorem dX9_next_102 : decode cX9_next 102 = .ok (.aload_n 0, 1) := by decide +kernel
theorem dX9_next_103 : decode cX9_next 103 = .ok (.getfield 151, 3) := by decide +kernel
theorem dX9_next_106 : decode cX9_next 106 = .ok (.iaload, 1) := by decide +kernel
theorem dX9_next_107 : decode cX9_next 107 = .ok (.invokestatic 163, 3) := by decide +kernel
theorem dX9_next_110 : decode cX9_next 110 = .ok (.ifCond .eq 53, 3) := by decide +kernel
theorem dX9_next_113 : decode cX9_next 113 = .ok (.aload_n 0, 1) := by decide +kernel
theorem dX9_next_114 : decode cX9_next 114 = .ok (.iload_n 2, 1) := by decide +kernel
theorem dX9_next_115 : decode cX9_next 115 = .ok (.bipush 6, 2) := by decide +kernel
theorem dX9_next_117 : decode cX9_next 117 = .ok (.if_icmp .ge 26, 3) := by decide +kernel
theorem dX9_next_120 : decode cX9_next 120 = .ok (.bipush 32, 2) := by decide +kernel
theorem dX9_next_122 : decode cX9_next 122 = .ok (.aload_n 0, 1) := by decide +kernel
theorem dX9_next_123 : decode cX9_next 123 = .ok (.getfield 157, 3) := by decide +kernel
theorem dX9_next_126 : decode cX9_next 126 = .ok (.imul, 1) := by decide +kernel
theorem dX9_next_127 : decode cX9_next 127 = .ok (.aload_n 0, 1) := by decide +kernel
theorem dX9_next_128 : decode cX9_next 128 = .ok (.getfield 20, 3) := by decide +kernel
theorem dX9_next_131 : decode cX9_next 131 = .ok (.aload_n 0, 1) := by decide +kernel
theorem dX9_next_132 : decode cX9_next 132 = .ok (.getfield 151, 3) := by decide +kernel
theorem dX9_next_135 : decode cX9_next 135 = .ok (.iaload, 1) := by decide +kernel
theorem dX9_next_136 : decode cX9_next 136 = .ok (.iadd, 1) := by decide +kernel
theorem dX9_next_137 : decode cX9_next 137 = .ok (.bipush 96, 2) := by decide +kernel
theorem dX9_next_139 : decode cX9_next 139 = .ok (.isub, 1) := by decide +kernel
theorem dX9_next_140 : decode cX9_next 140 = .ok (.goto 4, 3) := by decide +kernel
theorem dX9_next_143 : decode cX9_next 143 = .ok (.iconst 0, 1) := by decide +kernel
theorem dX9_next_144 : decode cX9_next 144 = .ok (.putfield 157, 3) := by decide +kernel
theorem dX9_next_147 : decode cX9_next 147 = .ok (.iinc 2 1, 3) := by decide +kernel
theorem dX9_next_150 : decode cX9_next 150 = .ok (.aload_n 0, 1) := by decide +kernel
theorem dX9_next_151 : decode cX9_next 151 = .ok (.dup, 1) := by decide +kernel
theorem dX9_next_152 : decode cX9_next 152 = .ok (.getfield 151, 3) := by decide +kernel
theorem dX9_next_155 : decode cX9_next 155 = .ok (.iconst 1, 1) := by decide +kernel
theorem dX9_next_156 : decode cX9_next 156 = .ok (.iadd, 1) := by decide +kernel
theorem dX9_next_157 : decode cX9_next 157 = .ok (.putfield 151, 3) := by decide +kernel
theorem dX9_next_160 : decode cX9_next 160 = .ok (.goto (-73), 3) := by decide +kernel
theorem dX9_next_163 : decode cX9_next 163 = .ok (.aload_n 0, 1) := by decide +kernel
theorem dX9_next_164 : decode cX9_next 164 = .ok (.iload_n 2, 1) := by decide +kernel
theorem dX9_next_165 : decode cX9_next 165 = .ok (.bipush 7, 2) := by decide +kernel
theorem dX9_next_167 : decode cX9_next 167 = .ok (.if_icmp .ge 7, 3) := by decide +kernel
theorem dX9_next_170 : decode cX9_next 170 = .ok (.iconst 1, 1) := by decide +kernel
theorem dX9_next_171 : decode cX9_next 171 = .ok (.goto 4, 3) := by decide +kernel
theorem dX9_next_174 : decode cX9_next 174 = .ok (.iconst 4, 1) := by decide +kernel
theorem dX9_next_175 : decode cX9_next 175 = .ok (.putfield 160, 3) := by decide +kernel
theorem dX9_next_178 : decode cX9_next 178 = .ok (.return_, 1) := by decide +kernel
theorem dX9_next_179 : decode cX9_next 179 = .ok (.iload_n 1, 1) := by decide +kernel
theorem dX9_next_180 : decode cX9_next 180 = .ok (.invokestatic 166, 3) := by decide +kernel
theorem dX9_next_183 : decode cX9_next 183 = .ok (.ifCond .eq 86, 3) := by decide +kernel
theorem dX9_next_186 : decode cX9_next 186 = .ok (.aload_n 0, 1) := by decide +kernel
theorem dX9_next_187 : decode cX9_next 187 = .ok (.getfield 151, 3) := by decide +kernel
theorem dX9_next_190 : decode cX9_next 190 = .ok (.aload_n 0, 1) := by decide +kernel
theorem dX9_next_191 : decode cX9_next 191 = .ok (.getfield 140, 3) := by decide +kernel
theorem dX9_next_194 : decode cX9_next 194 = .ok (.if_icmp .ge 69, 3) := by decide +kernel
theorem dX9_next_197 : decode cX9_next 197 = .ok (.aload_n 0, 1) := by decide +kernel
theorem dX9_next_198 : decode cX9_next 198 = .ok (.getfield 20, 3) := by decide +kernel
theorem dX9_next_201 : decode cX9_next 201 = .ok (.aload_n 0, 1) := by decide +kernel
theorem dX9_next_202 : decode cX9_next 202 = .ok (.getfield 151, 3) := by decide +kernel
theorem dX9_next_205 : decode cX9_next 205 = .ok (.iaload, 1) := by decide +kernel
theorem dX9_next_206 : decode cX9_next 206 = .ok (.invokestatic 166, 3) := by decide +kernel
theorem dX9_next_209 : decode cX9_next 209 = .ok (.ifCond .eq 54, 3) := by decide +kernel
theorem dX9_next_212 : decode cX9_next 212 = .ok (.aload_n 0, 1) := by decide +kernel
theorem dX9_next_213 : decode cX9_next 213 = .ok (.iload_n 2, 1) := by decide +kernel
theorem dX9_next_214 : decode cX9_next 214 = .ok (.iconst 2, 1) := by decide +kernel
theorem dX9_next_215 : decode cX9_next 215 = .ok (.if_icmp .ge 26, 3) := by decide +kernel
theorem dX9_next_218 : decode cX9_next 218 = .ok (.bipush 10, 2) := by decide +kernel
theorem dX9_next_220 : decode cX9_next 220 = .ok (.aload_n 0, 1) := by decide +kernel
theorem dX9_next_221 : decode cX9_next 221 = .ok (.getfield 157, 3) := by decide +kernel
theorem dX9_next_224 : decode cX9_next 224 = .ok (.imul, 1) := by decide +kernel
theorem dX9_next_225 : decode cX9_next 225 = .ok (.aload_n 0, 1) := by decide +kernel
theorem dX9_next_226 : decode cX9_next 226 = .ok (.getfield 20, 3) := by decide +kernel
theorem dX9_next_229 : decode cX9_next 229 = .ok (.aload_n 0, 1) := by decide +kernel
theorem dX9_next_230 : decode cX9_next 230 = .ok (.getfield 151, 3) := by decide +kernel
theorem dX9_next_233 : decode cX9_next 233 = .ok (.iaload, 1) := by decide +kernel
theorem dX9_next_234 : decode cX9_next 234 = .ok (.iadd, 1) := by decide +kernel
theorem dX9_next_235 : decode cX9_next 235 = .ok (.bipush 48, 2) := by decide +kernel
theorem dX9_next_237 : decode cX9_next 237 = .ok (.isub, 1) := by decide +kernel
theorem dX9_next_238 : decode cX9_next 238 = .ok (.goto 6, 3) := by decide +kernel
theorem dX9_next_241 : decode cX9_next 241 = .ok (.sipush 1000, 3) := by decide +kernel
theorem dX9_next_244 : decode cX9_next 244 = .ok (.putfield 157, 3) := by decide +kernel
theorem dX9_next_247 : decode cX9_next 247 = .ok (.iinc 2 1, 3) := by decide +kernel
theorem dX9_next_250 : decode cX9_next 250 = .ok (.aload_n 0, 1) := by decide +kernel
theorem dX9_next_251 : decode cX9_next 251 = .ok (.dup, 1) := by decide +kernel
theorem dX9_next_252 : decode cX9_next 252 = .ok (.getfield 151, 3) := by decide +kernel
theorem dX9_next_255 : decode cX9_next 255 = .ok (.iconst 1, 1) := by decide +kernel
theorem dX9_next_256 : decode cX9_next 256 = .ok (.iadd, 1) := by decide +kernel
theorem dX9_next_257 : decode cX9_next 257 = .ok (.putfield 151, 3) := by decide +kernel
theorem dX9_next_260 : decode cX9_next 260 = .ok (.goto (-74), 3) := by decide +kernel
theorem dX9_next_263 : decode cX9_next 263 = .ok (.aload_n 0, 1) := by decide +kernel
theorem dX9_next_264 : decode cX9_next 264 = .ok (.iconst 2, 1) := by decide +kernel
theorem dX9_next_265 : decode cX9_next 265 = .ok (.putfield 160, 3) := by decide +kernel
theorem dX9_next_268 : decode cX9_next 268 = .ok (.return_, 1) := by decide +kernel
theorem dX9_next_269 : decode cX9_next 269 = .ok (.aload_n 0, 1) := by decide +kernel
theorem dX9_next_270 : decode cX9_next 270 = .ok (.iload_n 1, 1) := by decide +kernel
theorem dX9_next_271 : decode cX9_next 271 = .ok (.bipush 59, 2) := by decide +kernel
theorem dX9_next_273 : decode cX9_next 273 = .ok (.if_icmp .ne 7, 3) := by decide +kernel
theorem dX9_next_276 : decode cX9_next 276 = .ok (.iconst 3, 1) := by decide +kernel
theorem dX9_next_277 : decode cX9_next 277 = .ok (.goto 4, 3) := by decide +kernel
theorem dX9_next_280 : decode cX9_next 280 = .ok (.iconst 4, 1) := by decide +kernel
theorem dX9_next_281 : decode cX9_next 281 = .ok (.putfield 160, 3) := by decide +kernel
theorem dX9_next_284 : decode cX9_next 284 = .ok (.aload_n 0, 1) := by decide +kernel
theorem dX9_next_285 : decode cX9_next 285 = .ok (.dup, 1) := by decide +kernel
theorem dX9_next_286 : decode cX9_next 286 = .ok (.getfield 151, 3) := by decide +kernel
theorem dX9_next_289 : decode cX9_next 289 = .ok (.iconst 1, 1) := by decide +kernel
theorem dX9_next_290 : decode cX9_next 290 = .ok (.iadd, 1) := by decide +kernel
theorem dX9_next_291 : decode cX9_next 291 = .ok (.putfield 151, 3) := by decide +kernel
theorem dX9_next_294 : decode cX9_next 294 = .ok (.return_, 1) := by decide +kernel
theorem dX9_manyOf_0 : decode cX9_manyOf 0 = .ok (.iload_n 0, 1) := by decide +kernel
theorem dX9_manyOf_1 : decode cX9_manyOf 1 = .ok (.lookupswitch 97 #[(1156, 91), (1420, 95), (6194, 91), (20141, 93), (23609, 91), (463922, 93), (508078, 93), (605220, 91), (631476, 93), (781852974, 91)], 91) := by decide +kernel
theorem dX9_manyOf_92 : decode cX9_manyOf 92 = .ok (.iconst 2, 1) := by decide +kernel
theorem dX9_manyOf_93 : decode cX9_manyOf 93 = .ok (.ireturn, 1) := by decide +kernel
theorem dX9_manyOf_94 : decode cX9_manyOf 94 = .ok (.iconst 1, 1) := by decide +kernel
theorem dX9_manyOf_95 : decode cX9_manyOf 95 = .ok (.ireturn, 1) := by decide +kernel
theorem dX9_manyOf_96 : decode cX9_manyOf 96 = .ok (.iconst 0, 1) := by decide +kernel
theorem dX9_manyOf_97 : decode cX9_manyOf 97 = .ok (.ireturn, 1) := by decide +kernel
theorem dX9_manyOf_98 : decode cX9_manyOf 98 = .ok (.iconst (-1), 1) := by decide +kernel
theorem dX9_manyOf_99 : decode cX9_manyOf 99 = .ok (.ireturn, 1) := by decide +kernel
set_option maxRecDepth 20000 in
theorem ggX9_mayBe_X9_in : GoodIn wsX9_mayBe wsX9_in := goodIn_r _ [9] (by decide +kernel) (by decide +kernel)
set_option maxRecDepth 20000 in
theorem gX9_mayBe_X9_in : GoodIn wsX9_mayBe (va_wsS RX9 39 yX9_in wsX9_in) := goodIn_app (goodIn_of _ (by decide +kernel)) ggX9_mayBe_X9_in
theorem dX9_mayBe_0 : decode cX9_mayBe 0 = .ok (.iload_n 1, 1) := by decide +kernel
theorem dX9_mayBe_1 : decode cX9_mayBe 1 = .ok (.ifCond .ne 30, 3) := by decide +kernel
theorem dX9_mayBe_4 : decode cX9_mayBe 4 = .ok (.iload_n 2, 1) := by decide +kernel
theorem dX9_mayBe_5 : decode cX9_mayBe 5 = .ok (.i2l, 1) := by decide +kernel
theorem dX9_mayBe_6 : decode cX9_mayBe 6 = .ok (.aload_n 0, 1) := by decide +kernel
theorem dX9_mayBe_7 : decode cX9_mayBe 7 = .ok (.getfield 169, 3) := by decide +kernel
theorem dX9_mayBe_10 : decode cX9_mayBe 10 = .ok (.ldc 172, 2) := by decide +kernel
theorem dX9_mayBe_12 : decode cX9_mayBe 12 = .ok (.if_icmp .ne 7, 3) := by decide +kernel
theorem dX9_mayBe_15 : decode cX9_mayBe 15 = .ok (.lconst 1, 1) := by decide +kernel
theorem dX9_mayBe_16 : decode cX9_mayBe 16 = .ok (.goto 4, 3) := by decide +kernel
theorem dX9_mayBe_19 : decode cX9_mayBe 19 = .ok (.lconst 0, 1) := by decide +kernel
theorem dX9_mayBe_20 : decode cX9_mayBe 20 = .ok (.aload_n 0, 1) := by decide +kernel
theorem dX9_mayBe_21 : decode cX9_mayBe 21 = .ok (.getfield 173, 3) := by decide +kernel
theorem dX9_mayBe_24 : decode cX9_mayBe 24 = .ok (.iconst 1, 1) := by decide +kernel
theorem dX9_mayBe_25 : decode cX9_mayBe 25 = .ok (.isub, 1) := by decide +kernel
theorem dX9_mayBe_26 : decode cX9_mayBe 26 = .ok (.i2l, 1) := by decide +kernel
theorem dX9_mayBe_27 : decode cX9_mayBe 27 = .ok (.invokestatic 39, 3) := by decide +kernel
theorem dX9_mayBe_30 : decode cX9_mayBe 30 = .ok (.ireturn, 1) := by decide +kernel
theorem dX9_mayBe_31 : decode cX9_mayBe 31 = .ok (.aload_n 0, 1) := by decide +kernel
theorem dX9_mayBe_32 : decode cX9_mayBe 32 = .ok (.getfield 169, 3) := by decide +kernel
theorem dX9_mayBe_35 : decode cX9_mayBe 35 = .ok (.sipush 1156, 3) := by decide +kernel
theorem dX9_mayBe_38 : decode cX9_mayBe 38 = .ok (.if_icmp .eq 12, 3) := by decide +kernel
theorem dX9_mayBe_41 : decode cX9_mayBe 41 = .ok (.aload_n 0, 1) := by decide +kernel
theorem dX9_mayBe_42 : decode cX9_mayBe 42 = .ok (.getfield 169, 3) := by decide +kernel
theorem dX9_mayBe_45 : decode cX9_mayBe 45 = .ok (.ldc 172, 2) := by decide +kernel
theorem dX9_mayBe_47 : decode cX9_mayBe 47 = .ok (.if_icmp .ne 15, 3) := by decide +kernel
theorem dX9_mayBe_50 : decode cX9_mayBe 50 = .ok (.iload_n 2, 1) := by decide +kernel
theorem dX9_mayBe_51 : decode cX9_mayBe 51 = .ok (.i2l, 1) := by decide +kernel
theorem dX9_mayBe_52 : decode cX9_mayBe 52 = .ok (.lconst 1, 1) := by decide +kernel
theorem dX9_mayBe_53 : decode cX9_mayBe 53 = .ok (.ldc2_w 53, 3) := by decide +kernel
theorem dX9_mayBe_56 : decode cX9_mayBe 56 = .ok (.invokestatic 39, 3) := by decide +kernel
theorem dX9_mayBe_59 : decode cX9_mayBe 59 = .ok (.goto 37, 3) := by decide +kernel
theorem dX9_mayBe_62 : decode cX9_mayBe 62 = .ok (.aload_n 0, 1) := by decide +kernel
theorem dX9_mayBe_63 : decode cX9_mayBe 63 = .ok (.getfield 169, 3) := by decide +kernel
theorem dX9_mayBe_66 : decode cX9_mayBe 66 = .ok (.ldc 176, 2) := by decide +kernel
theorem dX9_mayBe_68 : decode cX9_mayBe 68 = .ok (.if_icmp .ne 15, 3) := by decide +kernel
theorem dX9_mayBe_71 : decode cX9_mayBe 71 = .ok (.iload_n 2, 1) := by decide +kernel
theorem dX9_mayBe_72 : decode cX9_mayBe 72 = .ok (.i2l, 1) := by decide +kernel
theorem dX9_mayBe_73 : decode cX9_mayBe 73 = .ok (.lconst 0, 1) := by decide +kernel
theorem dX9_mayBe_74 : decode cX9_mayBe 74 = .ok (.ldc2_w 53, 3) := by decide +kernel
theorem dX9_mayBe_77 : decode cX9_mayBe 77 = .ok (.invokestatic 39, 3) := by decide +kernel
theorem dX9_mayBe_80 : decode cX9_mayBe 80 = .ok (.goto 16, 3) := by decide +kernel
theorem dX9_mayBe_83 : decode cX9_mayBe 83 = .ok (.iload_n 2, 1) := by decide +kernel
theorem dX9_mayBe_84 : decode cX9_mayBe 84 = .ok (.i2l, 1) := by decide +kernel
theorem dX9_mayBe_85 : decode cX9_mayBe 85 = .ok (.lconst 0, 1) := by decide +kernel
theorem dX9_mayBe_86 : decode cX9_mayBe 86 = .ok (.aload_n 0, 1) := by decide +kernel
theorem dX9_mayBe_87 : decode cX9_mayBe 87 = .ok (.getfield 173, 3) := by decide +kernel
theorem dX9_mayBe_90 : decode cX9_mayBe 90 = .ok (.iconst 1, 1) := by decide +kernel
theorem dX9_mayBe_91 : decode cX9_mayBe 91 = .ok (.isub, 1) := by decide +kernel
theorem dX9_mayBe_92 : decode cX9_mayBe 92 = .ok (.i2l, 1) := by decide +kernel
theorem dX9_mayBe_93 : decode cX9_mayBe 93 = .ok (.invokestatic 39, 3) := by decide +kernel
theorem dX9_mayBe_96 : decode cX9_mayBe 96 = .ok (.ireturn, 1) := by decide +kernel
set_option maxRecDepth 20000 in
theorem ggX9_isSentence_X9_next : GoodIn wsX9_isSentence wsX9_next := goodIn_r _ [10, 11, 12, 13, 14, 1, 3, 15, 16, 9, 17, 18, 19, 20, 21, 22, 23, 24, 25, 26, 27, 38, 39, 40, 41, 42, 43, 44, 45, 46, 47, 48, 49, 50, 51, 52, 53, 54, 55, 56, 57, 58, 59] (by decide +kernel) (by decide +kernel)
set_option maxRecDepth 20000 in
theorem gX9_isSentence_X9_next : GoodIn wsX9_isSentence (wsV RX9 177 RX9 yX9_next wsX9_next) := goodIn_app (goodIn_of _ (by decide +kernel)) ggX9_isSentence_X9_next
set_option maxRecDepth 20000 in
theorem ggX9_isSentence_X9_manyOf : GoodIn wsX9_isSentence wsX9_manyOf := goodIn_r _ [30] (by decide +kernel) (by decide +kernel)
set_option maxRecDepth 20000 in
theorem gX9_isSentence_X9_manyOf : GoodIn wsX9_isSentence (va_wsS RX9 180 yX9_manyOf wsX9_manyOf) := goodIn_app (goodIn_of _ (by decide +kernel)) ggX9_isSentence_X9_manyOf
set_option maxRecDepth 20000 in
theorem ggX9_isSentence_X9_mayBe : GoodIn wsX9_isSentence wsX9_mayBe := goodIn_r _ [34, 2, 35, 4, 36, 37, 20, 21, 9, 22, 38, 39, 40, 41, 42, 43, 44, 45, 46, 47, 48, 49, 50, 51, 52, 53, 54, 55, 56, 57, 58, 59] (by decide +kernel) (by decide +kernel)
set_option maxRecDepth 20000 in
theorem gX9_isSentence_X9_mayBe : GoodIn wsX9_isSentence (wsV RX9 183 RX9 yX9_mayBe wsX9_mayBe) := goodIn_app (goodIn_of _ (by decide +kernel)) ggX9_isSentence_X9_mayBe
theorem dX9_isSentence_0 : decode cX9_isSentence 0 = .ok (.aload_n 0, 1) := by decide +kernel
theorem dX9_isSentence_1 : decode cX9_isSentence 1 = .ok (.invokevirtual 177, 3) := by decide +kernel
theorem dX9_isSentence_4 : decode cX9_isSentence 4 = .ok (.aload_n 0, 1) := by decide +kernel
theorem dX9_isSentence_5 : decode cX9_isSentence 5 = .ok (.aload_n 0, 1) := by decide +kernel
theorem dX9_isSentence_6 : decode cX9_isSentence 6 = .ok (.getfield 157, 3) := by decide +kernel
theorem dX9_isSentence_9 : decode cX9_isSentence 9 = .ok (.putfield 169, 3) := by decide +kernel
theorem dX9_isSentence_12 : decode cX9_isSentence 12 = .ok (.aload_n 0, 1) := by decide +kernel
theorem dX9_isSentence_13 : decode cX9_isSentence 13 = .ok (.getfield 160, 3) := by decide +kernel
theorem dX9_isSentence_16 : decode cX9_isSentence 16 = .ok (.iconst 1, 1) := by decide +kernel
theorem dX9_isSentence_17 : decode cX9_isSentence 17 = .ok (.if_icmp .ne 13, 3) := by decide +kernel
theorem dX9_isSentence_20 : decode cX9_isSentence 20 = .ok (.aload_n 0, 1) := by decide +kernel
theorem dX9_isSentence_21 : decode cX9_isSentence 21 = .ok (.getfield 169, 3) := by decide +kernel
theorem dX9_isSentence_24 : decode cX9_isSentence 24 = .ok (.invokestatic 180, 3) := by decide +kernel
theorem dX9_isSentence_27 : decode cX9_isSentence 27 = .ok (.goto 4, 3) := by decide +kernel
theorem dX9_isSentence_30 : decode cX9_isSentence 30 = .ok (.iconst (-1), 1) := by decide +kernel
theorem dX9_isSentence_31 : decode cX9_isSentence 31 = .ok (.istore_n 1, 1) := by decide +kernel
theorem dX9_isSentence_32 : decode cX9_isSentence 32 = .ok (.iload_n 1, 1) := by decide +kernel
theorem dX9_isSentence_33 : decode cX9_isSentence 33 = .ok (.iconst (-1), 1) := by decide +kernel
theorem dX9_isSentence_34 : decode cX9_isSentence 34 = .ok (.if_icmp .eq 22, 3) := by decide +kernel
theorem dX9_isSentence_37 : decode cX9_isSentence 37 = .ok (.aload_n 0, 1) := by decide +kernel
theorem dX9_isSentence_38 : decode cX9_isSentence 38 = .ok (.getfield 169, 3) := by decide +kernel
theorem dX9_isSentence_41 : decode cX9_isSentence 41 = .ok (.sipush 1156, 3) := by decide +kernel
theorem dX9_isSentence_44 : decode cX9_isSentence 44 = .ok (.if_icmp .ne 14, 3) := by decide +kernel
theorem dX9_isSentence_47 : decode cX9_isSentence 47 = .ok (.aload_n 0, 1) := by decide +kernel
theorem dX9_isSentence_48 : decode cX9_isSentence 48 = .ok (.getfield 173, 3) := by decide +kernel
theorem dX9_isSentence_51 : decode cX9_isSentence 51 = .ok (.bipush 60, 2) := by decide +kernel
theorem dX9_isSentence_53 : decode cX9_isSentence 53 = .ok (.if_icmp .ne 5, 3) := by decide +kernel
theorem dX9_isSentence_56 : decode cX9_isSentence 56 = .ok (.iconst 0, 1) := by decide +kernel
theorem dX9_isSentence_57 : decode cX9_isSentence 57 = .ok (.ireturn, 1) := by decide +kernel
theorem dX9_isSentence_58 : decode cX9_isSentence 58 = .ok (.iconst 0, 1) := by decide +kernel
theorem dX9_isSentence_59 : decode cX9_isSentence 59 = .ok (.istore_n 2, 1) := by decide +kernel
theorem dX9_isSentence_60 : decode cX9_isSentence 60 = .ok (.iload_n 2, 1) := by decide +kernel
theorem dX9_isSentence_61 : decode cX9_isSentence 61 = .ok (.iload_n 1, 1) := by decide +kernel
theorem dX9_isSentence_62 : decode cX9_isSentence 62 = .ok (.if_icmp .ge 45, 3) := by decide +kernel
theorem dX9_isSentence_65 : decode cX9_isSentence 65 = .ok (.aload_n 0, 1) := by decide +kernel
theorem dX9_isSentence_66 : decode cX9_isSentence 66 = .ok (.invokevirtual 177, 3) := by decide +kernel
theorem dX9_isSentence_69 : decode cX9_isSentence 69 = .ok (.aload_n 0, 1) := by decide +kernel
theorem dX9_isSentence_70 : decode cX9_isSentence 70 = .ok (.getfield 160, 3) := by decide +kernel
theorem dX9_isSentence_73 : decode cX9_isSentence 73 = .ok (.iconst 2, 1) := by decide +kernel
theorem dX9_isSentence_74 : decode cX9_isSentence 74 = .ok (.if_icmp .ne 15, 3) := by decide +kernel
theorem dX9_isSentence_77 : decode cX9_isSentence 77 = .ok (.aload_n 0, 1) := by decide +kernel
theorem dX9_isSentence_78 : decode cX9_isSentence 78 = .ok (.iload_n 2, 1) := by decide +kernel
theorem dX9_isSentence_79 : decode cX9_isSentence 79 = .ok (.aload_n 0, 1) := by decide +kernel
theorem dX9_isSentence_80 : decode cX9_isSentence 80 = .ok (.getfield 157, 3) := by decide +kernel
theorem dX9_isSentence_83 : decode cX9_isSentence 83 = .ok (.invokevirtual 183, 3) := by decide +kernel
theorem dX9_isSentence_86 : decode cX9_isSentence 86 = .ok (.ifCond .ne 5, 3) := by decide +kernel
theorem dX9_isSentence_89 : decode cX9_isSentence 89 = .ok (.iconst 0, 1) := by decide +kernel
theorem dX9_isSentence_90 : decode cX9_isSentence 90 = .ok (.ireturn, 1) := by decide +kernel
theorem dX9_isSentence_91 : decode cX9_isSentence 91 = .ok (.aload_n 0, 1) := by decide +kernel
theorem dX9_isSentence_92 : decode cX9_isSentence 92 = .ok (.getfield 32, 3) := by decide +kernel
theorem dX9_isSentence_95 : decode cX9_isSentence 95 = .ok (.iload_n 2, 1) := by decide +kernel
theorem dX9_isSentence_96 : decode cX9_isSentence 96 = .ok (.aload_n 0, 1) := by decide +kernel
theorem dX9_isSentence_97 : decode cX9_isSentence 97 = .ok (.getfield 157, 3) := by decide +kernel
theorem dX9_isSentence_100 : decode cX9_isSentence 100 = .ok (.iastore, 1) := by decide +kernel
theorem dX9_isSentence_101 : decode cX9_isSentence 101 = .ok (.iinc 2 1, 3) := by decide +kernel
theorem dX9_isSentence_104 : decode cX9_isSentence 104 = .ok (.goto (-44), 3) := by decide +kernel
theorem dX9_isSentence_107 : decode cX9_isSentence 107 = .ok (.aload_n 0, 1) := by decide +kernel
theorem dX9_isSentence_108 : decode cX9_isSentence 108 = .ok (.invokevirtual 177, 3) := by decide +kernel
theorem dX9_isSentence_111 : decode cX9_isSentence 111 = .ok (.aload_n 0, 1) := by decide +kernel
theorem dX9_isSentence_112 : decode cX9_isSentence 112 = .ok (.dup, 1) := by decide +kernel
theorem dX9_isSentence_113 : decode cX9_isSentence 113 = .ok (.getfield 173, 3) := by decide +kernel
theorem dX9_isSentence_116 : decode cX9_isSentence 116 = .ok (.aload_n 0, 1) := by decide +kernel
theorem dX9_isSentence_117 : decode cX9_isSentence 117 = .ok (.getfield 169, 3) := by decide +kernel
theorem dX9_isSentence_120 : decode cX9_isSentence 120 = .ok (.sipush 1156, 3) := by decide +kernel
theorem dX9_isSentence_123 : decode cX9_isSentence 123 = .ok (.if_icmp .ne 7, 3) := by decide +kernel
theorem dX9_isSentence_126 : decode cX9_isSentence 126 = .ok (.iconst 1, 1) := by decide +kernel
theorem dX9_isSentence_127 : decode cX9_isSentence 127 = .ok (.goto 4, 3) := by decide +kernel
theorem dX9_isSentence_130 : decode cX9_isSentence 130 = .ok (.iconst 0, 1) := by decide +kernel
theorem dX9_isSentence_131 : decode cX9_isSentence 131 = .ok (.iadd, 1) := by decide +kernel
theorem dX9_isSentence_132 : decode cX9_isSentence 132 = .ok (.putfield 173, 3) := by decide +kernel
theorem dX9_isSentence_135 : decode cX9_isSentence 135 = .ok (.aload_n 0, 1) := by decide +kernel
theorem dX9_isSentence_136 : decode cX9_isSentence 136 = .ok (.getfield 160, 3) := by decide +kernel
theorem dX9_isSentence_139 : decode cX9_isSentence 139 = .ok (.iconst 3, 1) := by decide +kernel
theorem dX9_isSentence_140 : decode cX9_isSentence 140 = .ok (.if_icmp .ne 7, 3) := by decide +kernel
theorem dX9_isSentence_143 : decode cX9_isSentence 143 = .ok (.iconst 1, 1) := by decide +kernel
theorem dX9_isSentence_144 : decode cX9_isSentence 144 = .ok (.goto 4, 3) := by decide +kernel
theorem dX9_isSentence_147 : decode cX9_isSentence 147 = .ok (.iconst 0, 1) := by decide +kernel
theorem dX9_isSentence_148 : decode cX9_isSentence 148 = .ok (.ireturn, 1) := by decide +kernel
theorem dX9_isMore_0 : decode cX9_isMore 0 = .ok (.aload_n 0, 1) := by decide +kernel
theorem dX9_isMore_1 : decode cX9_isMore 1 = .ok (.getfield 151, 3) := by decide +kernel
theorem dX9_isMore_4 : decode cX9_isMore 4 = .ok (.istore_n 1, 1) := by decide +kernel
theorem dX9_isMore_5 : decode cX9_isMore 5 = .ok (.iload_n 1, 1) := by decide +kernel
theorem dX9_isMore_6 : decode cX9_isMore 6 = .ok (.aload_n 0, 1) := by decide +kernel
theorem dX9_isMore_7 : decode cX9_isMore 7 = .ok (.getfield 140, 3) := by decide +kernel
theorem dX9_isMore_10 : decode cX9_isMore 10 = .ok (.if_icmp .ge 20, 3) := by decide +kernel
theorem dX9_isMore_13 : decode cX9_isMore 13 = .ok (.aload_n 0, 1) := by decide +kernel
theorem dX9_isMore_14 : decode cX9_isMore 14 = .ok (.getfield 20, 3) := by decide +kernel
theorem dX9_isMore_17 : decode cX9_isMore 17 = .ok (.iload_n 1, 1) := by decide +kernel
theorem dX9_isMore_18 : decode cX9_isMore 18 = .ok (.iaload, 1) := by decide +kernel
theorem dX9_isMore_19 : decode cX9_isMore 19 = .ok (.bipush 32, 2) := by decide +kernel
theorem dX9_isMore_21 : decode cX9_isMore 21 = .ok (.if_icmp .ne 9, 3) := by decide +kernel
theorem dX9_isMore_24 : decode cX9_isMore 24 = .ok (.iinc 1 1, 3) := by decide +kernel
theorem dX9_isMore_27 : decode cX9_isMore 27 = .ok (.goto (-22), 3) := by decide +kernel
theorem dX9_isMore_30 : decode cX9_isMore 30 = .ok (.iload_n 1, 1) := by decide +kernel
theorem dX9_isMore_31 : decode cX9_isMore 31 = .ok (.aload_n 0, 1) := by decide +kernel
theorem dX9_isMore_32 : decode cX9_isMore 32 = .ok (.getfield 140, 3) := by decide +kernel
theorem dX9_isMore_35 : decode cX9_isMore 35 = .ok (.if_icmp .ge 7, 3) := by decide +kernel
theorem dX9_isMore_38 : decode cX9_isMore 38 = .ok (.iconst 1, 1) := by decide +kernel
theorem dX9_isMore_39 : decode cX9_isMore 39 = .ok (.goto 4, 3) := by decide +kernel
theorem dX9_isMore_42 : decode cX9_isMore 42 = .ok (.iconst 0, 1) := by decide +kernel
theorem dX9_isMore_43 : decode cX9_isMore 43 = .ok (.ireturn, 1) := by decide +kernel
theorem dX9_putSign_0 : decode cX9_putSign 0 = .ok (.aload_n 0, 1) := by decide +kernel
theorem dX9_putSign_1 : decode cX9_putSign 1 = .ok (.getfield 187, 3) := by decide +kernel
theorem dX9_putSign_4 : decode cX9_putSign 4 = .ok (.sipush 400, 3) := by decide +kernel
theorem dX9_putSign_7 : decode cX9_putSign 7 = .ok (.if_icmp .ge 23, 3) := by decide +kernel
theorem dX9_putSign_10 : decode cX9_putSign 10 = .ok (.aload_n 0, 1) := by decide +kernel
theorem dX9_putSign_11 : decode cX9_putSign 11 = .ok (.getfield 23, 3) := by decide +kernel
theorem dX9_putSign_14 : decode cX9_putSign 14 = .ok (.aload_n 0, 1) := by decide +kernel
theorem dX9_putSign_15 : decode cX9_putSign 15 = .ok (.getfield 187, 3) := by decide +kernel
theorem dX9_putSign_18 : decode cX9_putSign 18 = .ok (.iload_n 1, 1) := by decide +kernel
theorem dX9_putSign_19 : decode cX9_putSign 19 = .ok (.iastore, 1) := by decide +kernel
theorem dX9_putSign_20 : decode cX9_putSign 20 = .ok (.aload_n 0, 1) := by decide +kernel
theorem dX9_putSign_21 : decode cX9_putSign 21 = .ok (.dup, 1) := by decide +kernel
theorem dX9_putSign_22 : decode cX9_putSign 22 = .ok (.getfield 187, 3) := by decide +kernel
theorem dX9_putSign_25 : decode cX9_putSign 25 = .ok (.iconst 1, 1) := by decide +kernel
theorem dX9_putSign_26 : decode cX9_putSign 26 = .ok (.iadd, 1) := by decide +kernel
theorem dX9_putSign_27 : decode cX9_putSign 27 = .ok (.putfield 187, 3) := by decide +kernel
theorem dX9_putSign_30 : decode cX9_putSign 30 = .ok (.return_, 1) := by decide +kernel
set_option maxRecDepth 20000 in
theorem ggX9_putNumber_X9_putSign : GoodIn wsX9_putNumber wsX9_putSign := goodIn_r _ [5, 6, 7, 8, 9, 10, 11, 12, 13, 14, 15, 16, 17, 18, 19, 20, 21, 22, 23, 24, 25, 26, 27, 28, 29] (by decide +kernel) (by decide +kernel)
set_option maxRecDepth 20000 in
theorem gX9_putNumber_X9_putSign : GoodIn wsX9_putNumber (wsV RX9 190 RX9 yX9_putSign wsX9_putSign) := goodIn_app (goodIn_of _ (by decide +kernel)) ggX9_putNumber_X9_putSign
theorem dX9_putNumber_0 : decode cX9_putNumber 0 = .ok (.iconst 1, 1) := by decide +kernel
theorem dX9_putNumber_1 : decode cX9_putNumber 1 = .ok (.istore_n 2, 1) := by decide +kernel
theorem dX9_putNumber_2 : decode cX9_putNumber 2 = .ok (.iload_n 1, 1) := by decide +kernel
theorem dX9_putNumber_3 : decode cX9_putNumber 3 = .ok (.iload_n 2, 1) := by decide +kernel
theorem dX9_putNumber_4 : decode cX9_putNumber 4 = .ok (.idiv, 1) := by decide +kernel
theorem dX9_putNumber_5 : decode cX9_putNumber 5 = .ok (.bipush 9, 2) := by decide +kernel
theorem dX9_putNumber_7 : decode cX9_putNumber 7 = .ok (.if_icmp .le 11, 3) := by decide +kernel
theorem dX9_putNumber_10 : decode cX9_putNumber 10 = .ok (.iload_n 2, 1) := by decide +kernel
theorem dX9_putNumber_11 : decode cX9_putNumber 11 = .ok (.bipush 10, 2) := by decide +kernel
theorem dX9_putNumber_13 : decode cX9_putNumber 13 = .ok (.imul, 1) := by decide +kernel
theorem dX9_putNumber_14 : decode cX9_putNumber 14 = .ok (.istore_n 2, 1) := by decide +kernel
theorem dX9_putNumber_15 : decode cX9_putNumber 15 = .ok (.goto (-13), 3) := by decide +kernel
theorem dX9_putNumber_18 : decode cX9_putNumber 18 = .ok (.iload_n 2, 1) := by decide +kernel
theorem dX9_putNumber_19 : decode cX9_putNumber 19 = .ok (.ifCond .le 24, 3) := by decide +kernel
theorem dX9_putNumber_22 : decode cX9_putNumber 22 = .ok (.aload_n 0, 1) := by decide +kernel
theorem dX9_putNumber_23 : decode cX9_putNumber 23 = .ok (.bipush 48, 2) := by decide +kernel
theorem dX9_putNumber_25 : decode cX9_putNumber 25 = .ok (.iload_n 1, 1) := by decide +kernel
theorem dX9_putNumber_26 : decode cX9_putNumber 26 = .ok (.iload_n 2, 1) := by decide +kernel
theorem dX9_putNumber_27 : decode cX9_putNumber 27 = .ok (.idiv, 1) := by decide +kernel
theorem dX9_putNumber_28 : decode cX9_putNumber 28 = .ok (.bipush 10, 2) := by decide +kernel
theorem dX9_putNumber_30 : decode cX9_putNumber 30 = .ok (.irem, 1) := by decide +kernel
theorem dX9_putNumber_31 : decode cX9_putNumber 31 = .ok (.iadd, 1) := by decide +kernel
theorem dX9_putNumber_32 : decode cX9_putNumber 32 = .ok (.invokevirtual 190, 3) := by decide +kernel
theorem dX9_putNumber_35 : decode cX9_putNumber 35 = .ok (.iload_n 2, 1) := by decide +kernel
theorem dX9_putNumber_36 : decode cX9_putNumber 36 = .ok (.bipush 10, 2) := by decide +kernel
theorem dX9_putNumber_38 : decode cX9_putNumber 38 = .ok (.idiv, 1) := by decide +kernel
theorem dX9_putNumber_39 : decode cX9_putNumber 39 = .ok (.istore_n 2, 1) := by decide +kernel
theorem dX9_putNumber_40 : decode cX9_putNumber 40 = .ok (.goto (-22), 3) := by decide +kernel
theorem dX9_putNumber_43 : decode cX9_putNumber 43 = .ok (.return_, 1) := by decide +kernel
set_option maxRecDepth 20000 in
theorem ggX9_sayWay_X9_findWay : GoodIn wsX9_sayWay wsX9_findWay := goodIn_r _ [8, 3, 9, 2, 20, 21, 22, 23, 24, 25, 26, 27, 28, 29, 30, 31, 32, 33, 34, 35, 36, 37, 38, 39, 40, 41] (by decide +kernel) (by decide +kernel)
set_option maxRecDepth 20000 in
theorem gX9_sayWay_X9_findWay : GoodIn wsX9_sayWay (wsV RX9 105 RX9 yX9_findWay wsX9_findWay) := goodIn_app (goodIn_of _ (by decide +kernel)) ggX9_sayWay_X9_findWay
set_option maxRecDepth 20000 in
theorem ggX9_sayWay_X9_putSign : GoodIn wsX9_sayWay wsX9_putSign := goodIn_r _ [13, 14, 15, 20, 21, 22, 23, 24, 25, 26, 27, 28, 29, 30, 31, 32, 33, 34, 35, 36, 37, 38, 39, 40, 41] (by decide +kernel) (by decide +kernel)
set_option maxRecDepth 20000 in
theorem gX9_sayWay_X9_putSign : GoodIn wsX9_sayWay (wsV RX9 190 RX9 yX9_putSign wsX9_putSign) := goodIn_app (goodIn_of _ (by decide +kernel)) ggX9_sayWay_X9_putSign
set_option maxRecDepth 20000 in
theorem ggX9_sayWay_X9_putNumber : GoodIn wsX9_sayWay wsX9_putNumber := goodIn_r _ [19, 10, 11, 12, 7, 13, 14, 15, 20, 21, 22, 23, 24, 25, 26, 27, 28, 29, 30, 31, 32, 33, 34, 35, 36, 37, 38, 39, 40, 41] (by decide +kernel) (by decide +kernel)
set_option maxRecDepth 20000 in
theorem gX9_sayWay_X9_putNumber : GoodIn wsX9_sayWay (wsV RX9 194 RX9 yX9_putNumber wsX9_putNumber) := goodIn_app (goodIn_of _ (by decide +kernel)) ggX9_sayWay_X9_putNumber
theorem dX9_sayWay_0 : decode cX9_sayWay 0 = .ok (.aload_n 0, 1) := by decide +kernel
theorem dX9_sayWay_1 : decode cX9_sayWay 1 = .ok (.aload_n 0, 1) := by decide +kernel
theorem dX9_sayWay_2 : decode cX9_sayWay 2 = .ok (.getfield 32, 3) := by decide +kernel
theorem dX9_sayWay_5 : decode cX9_sayWay 5 = .ok (.iconst 0, 1) := by decide +kernel
theorem dX9_sayWay_6 : decode cX9_sayWay 6 = .ok (.iaload, 1) := by decide +kernel
theorem dX9_sayWay_7 : decode cX9_sayWay 7 = .ok (.aload_n 0, 1) := by decide +kernel
theorem dX9_sayWay_8 : decode cX9_sayWay 8 = .ok (.getfield 32, 3) := by decide +kernel
theorem dX9_sayWay_11 : decode cX9_sayWay 11 = .ok (.iconst 1, 1) := by decide +kernel
theorem dX9_sayWay_12 : decode cX9_sayWay 12 = .ok (.iaload, 1) := by decide +kernel
theorem dX9_sayWay_13 : decode cX9_sayWay 13 = .ok (.invokevirtual 105, 3) := by decide +kernel
theorem dX9_sayWay_16 : decode cX9_sayWay 16 = .ok (.iconst 0, 1) := by decide +kernel
theorem dX9_sayWay_17 : decode cX9_sayWay 17 = .ok (.istore_n 1, 1) := by decide +kernel
theorem dX9_sayWay_18 : decode cX9_sayWay 18 = .ok (.iload_n 1, 1) := by decide +kernel
theorem dX9_sayWay_19 : decode cX9_sayWay 19 = .ok (.aload_n 0, 1) := by decide +kernel
theorem dX9_sayWay_20 : decode cX9_sayWay 20 = .ok (.getfield 102, 3) := by decide +kernel
theorem dX9_sayWay_23 : decode cX9_sayWay 23 = .ok (.if_icmp .ge 29, 3) := by decide +kernel
theorem dX9_sayWay_26 : decode cX9_sayWay 26 = .ok (.iload_n 1, 1) := by decide +kernel
theorem dX9_sayWay_27 : decode cX9_sayWay 27 = .ok (.ifCond .le 9, 3) := by decide +kernel
theorem dX9_sayWay_30 : decode cX9_sayWay 30 = .ok (.aload_n 0, 1) := by decide +kernel
theorem dX9_sayWay_31 : decode cX9_sayWay 31 = .ok (.bipush 62, 2) := by decide +kernel
theorem dX9_sayWay_33 : decode cX9_sayWay 33 = .ok (.invokevirtual 190, 3) := by decide +kernel
theorem dX9_sayWay_36 : decode cX9_sayWay 36 = .ok (.aload_n 0, 1) := by decide +kernel
theorem dX9_sayWay_37 : decode cX9_sayWay 37 = .ok (.aload_n 0, 1) := by decide +kernel
theorem dX9_sayWay_38 : decode cX9_sayWay 38 = .ok (.getfield 26, 3) := by decide +kernel
theorem dX9_sayWay_41 : decode cX9_sayWay 41 = .ok (.iload_n 1, 1) := by decide +kernel
theorem dX9_sayWay_42 : decode cX9_sayWay 42 = .ok (.iaload, 1) := by decide +kernel
theorem dX9_sayWay_43 : decode cX9_sayWay 43 = .ok (.invokevirtual 194, 3) := by decide +kernel
theorem dX9_sayWay_46 : decode cX9_sayWay 46 = .ok (.iinc 1 1, 3) := by decide +kernel
theorem dX9_sayWay_49 : decode cX9_sayWay 49 = .ok (.goto (-31), 3) := by decide +kernel
theorem dX9_sayWay_52 : decode cX9_sayWay 52 = .ok (.return_, 1) := by decide +kernel
set_option maxRecDepth 20000 in
theorem ggX9_sayAll_X9_putSign : GoodIn wsX9_sayAll wsX9_putSign := goodIn_r _ [7, 8, 9, 14, 15, 16, 17, 18, 19, 20, 21, 22, 23, 24, 25, 26, 27, 28, 29, 30, 31, 32, 33, 34, 35] (by decide +kernel) (by decide +kernel)
set_option maxRecDepth 20000 in
theorem gX9_sayAll_X9_putSign : GoodIn wsX9_sayAll (wsV RX9 190 RX9 yX9_putSign wsX9_putSign) := goodIn_app (goodIn_of _ (by decide +kernel)) ggX9_sayAll_X9_putSign
set_option maxRecDepth 20000 in
theorem ggX9_sayAll_X9_putNumber : GoodIn wsX9_sayAll wsX9_putNumber := goodIn_r _ [13, 3, 4, 5, 6, 7, 8, 9, 14, 15, 16, 17, 18, 19, 20, 21, 22, 23, 24, 25, 26, 27, 28, 29, 30, 31, 32, 33, 34, 35] (by decide +kernel) (by decide +kernel)
set_option maxRecDepth 20000 in
theorem gX9_sayAll_X9_putNumber : GoodIn wsX9_sayAll (wsV RX9 194 RX9 yX9_putNumber wsX9_putNumber) := goodIn_app (goodIn_of _ (by decide +kernel)) ggX9_sayAll_X9_putNumber
theorem dX9_sayAll_0 : decode cX9_sayAll 0 = .ok (.iconst 0, 1) := by decide +kernel
theorem dX9_sayAll_1 : decode cX9_sayAll 1 = .ok (.istore_n 1, 1) := by decide +kernel
theorem dX9_sayAll_2 : decode cX9_sayAll 2 = .ok (.iconst 0, 1) := by decide +kernel
theorem dX9_sayAll_3 : decode cX9_sayAll 3 = .ok (.istore_n 2, 1) := by decide +kernel
theorem dX9_sayAll_4 : decode cX9_sayAll 4 = .ok (.iload_n 2, 1) := by decide +kernel
theorem dX9_sayAll_5 : decode cX9_sayAll 5 = .ok (.aload_n 0, 1) := by decide +kernel
theorem dX9_sayAll_6 : decode cX9_sayAll 6 = .ok (.getfield 35, 3) := by decide +kernel
theorem dX9_sayAll_9 : decode cX9_sayAll 9 = .ok (.if_icmp .ge 35, 3) := by decide +kernel
theorem dX9_sayAll_12 : decode cX9_sayAll 12 = .ok (.aload_n 0, 1) := by decide +kernel
theorem dX9_sayAll_13 : decode cX9_sayAll 13 = .ok (.getfield 16, 3) := by decide +kernel
theorem dX9_sayAll_16 : decode cX9_sayAll 16 = .ok (.iload_n 2, 1) := by decide +kernel
theorem dX9_sayAll_17 : decode cX9_sayAll 17 = .ok (.baload, 1) := by decide +kernel
theorem dX9_sayAll_18 : decode cX9_sayAll 18 = .ok (.ifCond .eq 20, 3) := by decide +kernel
theorem dX9_sayAll_21 : decode cX9_sayAll 21 = .ok (.iload_n 1, 1) := by decide +kernel
theorem dX9_sayAll_22 : decode cX9_sayAll 22 = .ok (.ifCond .eq 9, 3) := by decide +kernel
theorem dX9_sayAll_25 : decode cX9_sayAll 25 = .ok (.aload_n 0, 1) := by decide +kernel
theorem dX9_sayAll_26 : decode cX9_sayAll 26 = .ok (.bipush 44, 2) := by decide +kernel
theorem dX9_sayAll_28 : decode cX9_sayAll 28 = .ok (.invokevirtual 190, 3) := by decide +kernel
theorem dX9_sayAll_31 : decode cX9_sayAll 31 = .ok (.aload_n 0, 1) := by decide +kernel
theorem dX9_sayAll_32 : decode cX9_sayAll 32 = .ok (.iload_n 2, 1) := by decide +kernel
theorem dX9_sayAll_33 : decode cX9_sayAll 33 = .ok (.invokevirtual 194, 3) := by decide +kernel
theorem dX9_sayAll_36 : decode cX9_sayAll 36 = .ok (.iconst 1, 1) := by decide +kernel
theorem dX9_sayAll_37 : decode cX9_sayAll 37 = .ok (.istore_n 1, 1) := by decide +kernel
theorem dX9_sayAll_38 : decode cX9_sayAll 38 = .ok (.iinc 2 1, 3) := by decide +kernel
theorem dX9_sayAll_41 : decode cX9_sayAll 41 = .ok (.goto (-37), 3) := by decide +kernel
theorem dX9_sayAll_44 : decode cX9_sayAll 44 = .ok (.iload_n 1, 1) := by decide +kernel
theorem dX9_sayAll_45 : decode cX9_sayAll 45 = .ok (.ifCond .ne 9, 3) := by decide +kernel
theorem dX9_sayAll_48 : decode cX9_sayAll 48 = .ok (.aload_n 0, 1) := by decide +kernel
theorem dX9_sayAll_49 : decode cX9_sayAll 49 = .ok (.bipush 45, 2) := by decide +kernel
theorem dX9_sayAll_51 : decode cX9_sayAll 51 = .ok (.invokevirtual 190, 3) := by decide +kernel
theorem dX9_sayAll_54 : decode cX9_sayAll 54 = .ok (.return_, 1) := by decide +kernel
set_option maxRecDepth 20000 in
theorem ggX9_sayNear_X9_nearestOf : GoodIn wsX9_sayNear wsX9_nearestOf := goodIn_r _ [6, 7, 8, 9, 10, 11, 5, 12, 13, 14, 25, 26, 27, 28, 29, 30, 31, 32, 33, 34, 35, 36, 37, 38, 39, 40, 41, 42, 43, 44, 45, 46] (by decide +kernel) (by decide +kernel)
set_option maxRecDepth 20000 in
theorem gX9_sayNear_X9_nearestOf : GoodIn wsX9_sayNear (wsV RX9 121 RX9 yX9_nearestOf wsX9_nearestOf) := goodIn_app (goodIn_of _ (by decide +kernel)) ggX9_sayNear_X9_nearestOf
set_option maxRecDepth 20000 in
theorem ggX9_sayNear_X9_putSign : GoodIn wsX9_sayNear wsX9_putSign := goodIn_r _ [18, 19, 20, 25, 26, 27, 28, 29, 30, 31, 32, 33, 34, 35, 36, 37, 38, 39, 40, 41, 42, 43, 44, 45, 46] (by decide +kernel) (by decide +kernel)
set_option maxRecDepth 20000 in
theorem gX9_sayNear_X9_putSign : GoodIn wsX9_sayNear (wsV RX9 190 RX9 yX9_putSign wsX9_putSign) := goodIn_app (goodIn_of _ (by decide +kernel)) ggX9_sayNear_X9_putSign
set_option maxRecDepth 20000 in
theorem ggX9_sayNear_X9_putNumber : GoodIn wsX9_sayNear wsX9_putNumber := goodIn_r _ [24, 15, 16, 17, 5, 18, 19, 20, 25, 26, 27, 28, 29, 30, 31, 32, 33, 34, 35, 36, 37, 38, 39, 40, 41, 42, 43, 44, 45, 46] (by decide +kernel) (by decide +kernel)
set_option maxRecDepth 20000 in
theorem gX9_sayNear_X9_putNumber : GoodIn wsX9_sayNear (wsV RX9 194 RX9 yX9_putNumber wsX9_putNumber) := goodIn_app (goodIn_of _ (by decide +kernel)) ggX9_sayNear_X9_putNumber
set_option maxRecDepth 20000 in
theorem ggX9_sayNear_X9_farFrom : GoodIn wsX9_sayNear wsX9_farFrom := goodIn_r _ [12, 13, 14, 25, 26, 27, 28, 29, 30, 31, 32, 33, 34, 35, 36, 37, 38, 39, 40, 41, 42, 43, 44, 45, 46] (by decide +kernel) (by decide +kernel)
set_option maxRecDepth 20000 in
theorem gX9_sayNear_X9_farFrom : GoodIn wsX9_sayNear (wsV RX9 99 RX9 yX9_farFrom wsX9_farFrom) := goodIn_app (goodIn_of _ (by decide +kernel)) ggX9_sayNear_X9_farFrom
theorem dX9_sayNear_0 : decode cX9_sayNear 0 = .ok (.aload_n 0, 1) := by decide +kernel
theorem dX9_sayNear_1 : decode cX9_sayNear 1 = .ok (.aload_n 0, 1) := by decide +kernel
theorem dX9_sayNear_2 : decode cX9_sayNear 2 = .ok (.getfield 32, 3) := by decide +kernel
theorem dX9_sayNear_5 : decode cX9_sayNear 5 = .ok (.iconst 0, 1) := by decide +kernel
theorem dX9_sayNear_6 : decode cX9_sayNear 6 = .ok (.iaload, 1) := by decide +kernel
theorem dX9_sayNear_7 : decode cX9_sayNear 7 = .ok (.invokevirtual 121, 3) := by decide +kernel
theorem dX9_sayNear_10 : decode cX9_sayNear 10 = .ok (.istore_n 1, 1) := by decide +kernel
theorem dX9_sayNear_11 : decode cX9_sayNear 11 = .ok (.iload_n 1, 1) := by decide +kernel
theorem dX9_sayNear_12 : decode cX9_sayNear 12 = .ok (.iconst (-1), 1) := by decide +kernel
theorem dX9_sayNear_13 : decode cX9_sayNear 13 = .ok (.if_icmp .ne 12, 3) := by decide +kernel
theorem dX9_sayNear_16 : decode cX9_sayNear 16 = .ok (.aload_n 0, 1) := by decide +kernel
theorem dX9_sayNear_17 : decode cX9_sayNear 17 = .ok (.bipush 45, 2) := by decide +kernel
theorem dX9_sayNear_19 : decode cX9_sayNear 19 = .ok (.invokevirtual 190, 3) := by decide +kernel
theorem dX9_sayNear_22 : decode cX9_sayNear 22 = .ok (.goto 29, 3) := by decide +kernel
theorem dX9_sayNear_25 : decode cX9_sayNear 25 = .ok (.aload_n 0, 1) := by decide +kernel
theorem dX9_sayNear_26 : decode cX9_sayNear 26 = .ok (.iload_n 1, 1) := by decide +kernel
theorem dX9_sayNear_27 : decode cX9_sayNear 27 = .ok (.invokevirtual 194, 3) := by decide +kernel
theorem dX9_sayNear_30 : decode cX9_sayNear 30 = .ok (.aload_n 0, 1) := by decide +kernel
theorem dX9_sayNear_31 : decode cX9_sayNear 31 = .ok (.bipush 64, 2) := by decide +kernel
theorem dX9_sayNear_33 : decode cX9_sayNear 33 = .ok (.invokevirtual 190, 3) := by decide +kernel
theorem dX9_sayNear_36 : decode cX9_sayNear 36 = .ok (.aload_n 0, 1) := by decide +kernel
theorem dX9_sayNear_37 : decode cX9_sayNear 37 = .ok (.aload_n 0, 1) := by decide +kernel
theorem dX9_sayNear_38 : decode cX9_sayNear 38 = .ok (.iload_n 1, 1) := by decide +kernel
theorem dX9_sayNear_39 : decode cX9_sayNear 39 = .ok (.aload_n 0, 1) := by decide +kernel
theorem dX9_sayNear_40 : decode cX9_sayNear 40 = .ok (.getfield 32, 3) := by decide +kernel
theorem dX9_sayNear_43 : decode cX9_sayNear 43 = .ok (.iconst 0, 1) := by decide +kernel
theorem dX9_sayNear_44 : decode cX9_sayNear 44 = .ok (.iaload, 1) := by decide +kernel
theorem dX9_sayNear_45 : decode cX9_sayNear 45 = .ok (.invokevirtual 99, 3) := by decide +kernel
theorem dX9_sayNear_48 : decode cX9_sayNear 48 = .ok (.invokevirtual 194, 3) := by decide +kernel
theorem dX9_sayNear_51 : decode cX9_sayNear 51 = .ok (.return_, 1) := by decide +kernel
set_option maxRecDepth 20000 in
theorem ggX9_say_X9_come : GoodIn wsX9_say wsX9_come := goodIn_r _ [8, 9, 10, 11, 12, 65, 66, 67, 68, 69, 70, 71, 72, 73, 74, 75, 76, 77, 78, 79, 80, 81, 82, 83, 84, 85, 86] (by decide +kernel) (by decide +kernel)
set_option maxRecDepth 20000 in
theorem gX9_say_X9_come : GoodIn wsX9_say (wsV RX9 62 RX9 yX9_come wsX9_come) := goodIn_app (goodIn_of _ (by decide +kernel)) ggX9_say_X9_come
set_option maxRecDepth 20000 in
theorem ggX9_say_X9_putNumber : GoodIn wsX9_say wsX9_putNumber := goodIn_r _ [16, 17, 18, 19, 7, 20, 21, 22, 65, 66, 67, 68, 69, 70, 71, 72, 73, 74, 75, 76, 77, 78, 79, 80, 81, 82, 83, 84, 85, 86] (by decide +kernel) (by decide +kernel)
set_option maxRecDepth 20000 in
theorem gX9_say_X9_putNumber : GoodIn wsX9_say (wsV RX9 194 RX9 yX9_putNumber wsX9_putNumber) := goodIn_app (goodIn_of _ (by decide +kernel)) ggX9_say_X9_putNumber
set_option maxRecDepth 20000 in
theorem ggX9_say_X9_becomes : GoodIn wsX9_say wsX9_becomes := goodIn_r _ [26, 12, 65, 66, 67, 68, 69, 70, 71, 72, 73, 74, 75, 76, 77, 78, 79, 80, 81, 82, 83, 84, 85, 86] (by decide +kernel) (by decide +kernel)
set_option maxRecDepth 20000 in
theorem gX9_say_X9_becomes : GoodIn wsX9_say (wsV RX9 66 RX9 yX9_becomes wsX9_becomes) := goodIn_app (goodIn_of _ (by decide +kernel)) ggX9_say_X9_becomes
set_option maxRecDepth 20000 in
theorem ggX9_say_X9_lengthen : GoodIn wsX9_say wsX9_lengthen := goodIn_r _ [30, 11, 65, 66, 67, 68, 69, 70, 71, 72, 73, 74, 75, 76, 77, 78, 79, 80, 81, 82, 83, 84, 85, 86] (by decide +kernel) (by decide +kernel)
set_option maxRecDepth 20000 in
theorem gX9_say_X9_lengthen : GoodIn wsX9_say (wsV RX9 70 RX9 yX9_lengthen wsX9_lengthen) := goodIn_app (goodIn_of _ (by decide +kernel)) ggX9_say_X9_lengthen
set_option maxRecDepth 20000 in
theorem ggX9_say_X9_sayNear : GoodIn wsX9_say wsX9_sayNear := goodIn_r _ [34, 1, 35, 36, 37, 7, 38, 10, 12, 39, 40, 41, 42, 11, 9, 17, 18, 19, 20, 21, 22, 13, 14, 15, 16, 65, 66, 67, 68, 69, 70, 71, 72, 73, 74, 75, 76, 77, 78, 79, 80, 81, 82, 83, 84, 85, 86] (by decide +kernel) (by decide +kernel)
set_option maxRecDepth 20000 in
theorem gX9_say_X9_sayNear : GoodIn wsX9_say (wsV RX9 198 RX9 yX9_sayNear wsX9_sayNear) := goodIn_app (goodIn_of _ (by decide +kernel)) ggX9_say_X9_sayNear
set_option maxRecDepth 20000 in
theorem ggX9_say_X9_farFrom : GoodIn wsX9_say wsX9_farFrom := goodIn_r _ [42, 11, 9, 65, 66, 67, 68, 69, 70, 71, 72, 73, 74, 75, 76, 77, 78, 79, 80, 81, 82, 83, 84, 85, 86] (by decide +kernel) (by decide +kernel)
set_option maxRecDepth 20000 in
theorem gX9_say_X9_farFrom : GoodIn wsX9_say (wsV RX9 99 RX9 yX9_farFrom wsX9_farFrom) := goodIn_app (goodIn_of _ (by decide +kernel)) ggX9_say_X9_farFrom
set_option maxRecDepth 20000 in
theorem ggX9_say_X9_sayWay : GoodIn wsX9_say wsX9_sayWay := goodIn_r _ [46, 1, 47, 48, 49, 50, 51, 7, 52, 9, 17, 18, 19, 20, 21, 22, 13, 14, 15, 16, 65, 66, 67, 68, 69, 70, 71, 72, 73, 74, 75, 76, 77, 78, 79, 80, 81, 82, 83, 84, 85, 86] (by decide +kernel) (by decide +kernel)
set_option maxRecDepth 20000 in
theorem gX9_say_X9_sayWay : GoodIn wsX9_say (wsV RX9 201 RX9 yX9_sayWay wsX9_sayWay) := goodIn_app (goodIn_of _ (by decide +kernel)) ggX9_say_X9_sayWay
set_option maxRecDepth 20000 in
theorem ggX9_say_X9_manyWithin : GoodIn wsX9_say wsX9_manyWithin := goodIn_r _ [56, 10, 12, 39, 40, 41, 7, 42, 11, 9, 65, 66, 67, 68, 69, 70, 71, 72, 73, 74, 75, 76, 77, 78, 79, 80, 81, 82, 83, 84, 85, 86] (by decide +kernel) (by decide +kernel)
set_option maxRecDepth 20000 in
theorem gX9_say_X9_manyWithin : GoodIn wsX9_say (wsV RX9 126 RX9 yX9_manyWithin wsX9_manyWithin) := goodIn_app (goodIn_of _ (by decide +kernel)) ggX9_say_X9_manyWithin
set_option maxRecDepth 20000 in
theorem ggX9_say_X9_sayAll : GoodIn wsX9_say wsX9_sayAll := goodIn_r _ [60, 10, 12, 17, 18, 19, 7, 20, 21, 22, 13, 14, 15, 16, 65, 66, 67, 68, 69, 70, 71, 72, 73, 74, 75, 76, 77, 78, 79, 80, 81, 82, 83, 84, 85, 86] (by decide +kernel) (by decide +kernel)
set_option maxRecDepth 20000 in
theorem gX9_say_X9_sayAll : GoodIn wsX9_say (wsV RX9 204 RX9 yX9_sayAll wsX9_sayAll) := goodIn_app (goodIn_of _ (by decide +kernel)) ggX9_say_X9_sayAll
set_option maxRecDepth 20000 in
theorem ggX9_say_X9_sumOfOpen : GoodIn wsX9_say wsX9_sumOfOpen := goodIn_r _ [64, 10, 12, 39, 40, 41, 7, 42, 11, 9, 65, 66, 67, 68, 69, 70, 71, 72, 73, 74, 75, 76, 77, 78, 79, 80, 81, 82, 83, 84, 85, 86] (by decide +kernel) (by decide +kernel)
set_option maxRecDepth 20000 in
theorem gX9_say_X9_sumOfOpen : GoodIn wsX9_say (wsV RX9 129 RX9 yX9_sumOfOpen wsX9_sumOfOpen) := goodIn_app (goodIn_of _ (by decide +kernel)) ggX9_say_X9_sumOfOpen
theorem dX9_say_0 : decode cX9_say 0 = .ok (.aload_n 0, 1) := by decide +kernel
theorem dX9_say_1 : decode cX9_say 1 = .ok (.getfield 32, 3) := by decide +kernel
theorem dX9_say_4 : decode cX9_say 4 = .ok (.iconst 0, 1) := by decide +kernel
theorem dX9_say_5 : decode cX9_say 5 = .ok (.iaload, 1) := by decide +kernel
theorem dX9_say_6 : decode cX9_say 6 = .ok (.istore_n 1, 1) := by decide +kernel
theorem dX9_say_7 : decode cX9_say 7 = .ok (.aload_n 0, 1) := by decide +kernel
theorem dX9_say_8 : decode cX9_say 8 = .ok (.getfield 32, 3) := by decide +kernel
theorem dX9_say_11 : decode cX9_say 11 = .ok (.iconst 1, 1) := by decide +kernel
theorem dX9_say_12 : decode cX9_say 12 = .ok (.iaload, 1) := by decide +kernel
theorem dX9_say_13 : decode cX9_say 13 = .ok (.istore_n 2, 1) := by decide +kernel
theorem dX9_say_14 : decode cX9_say 14 = .ok (.aload_n 0, 1) := by decide +kernel
theorem dX9_say_15 : decode cX9_say 15 = .ok (.getfield 169, 3) := by decide +kernel
theorem dX9_say_18 : decode cX9_say 18 = .ok (.lookupswitch 181 #[(1156, 82), (1420, 174), (6194, 141), (23609, 154), (463922, 134), (508078, 95), (605220, 121), (631476, 95), (781852974, 161)], 82) := by decide +kernel
theorem dX9_say_100 : decode cX9_say 100 = .ok (.aload_n 0, 1) := by decide +kernel
theorem dX9_say_101 : decode cX9_say 101 = .ok (.aload_n 0, 1) := by decide +kernel
theorem dX9_say_102 : decode cX9_say 102 = .ok (.iload_n 1, 1) := by decide +kernel
theorem dX9_say_103 : decode cX9_say 103 = .ok (.iload_n 2, 1) := by decide +kernel
theorem dX9_say_104 : decode cX9_say 104 = .ok (.invokevirtual 62, 3) := by decide +kernel
theorem dX9_say_107 : decode cX9_say 107 = .ok (.invokevirtual 194, 3) := by decide +kernel
theorem dX9_say_110 : decode cX9_say 110 = .ok (.goto 98, 3) := by decide +kernel
theorem dX9_say_113 : decode cX9_say 113 = .ok (.aload_n 0, 1) := by decide +kernel
theorem dX9_say_114 : decode cX9_say 114 = .ok (.aload_n 0, 1) := by decide +kernel
theorem dX9_say_115 : decode cX9_say 115 = .ok (.iload_n 1, 1) := by decide +kernel
theorem dX9_say_116 : decode cX9_say 116 = .ok (.aload_n 0, 1) := by decide +kernel
theorem dX9_say_117 : decode cX9_say 117 = .ok (.getfield 169, 3) := by decide +kernel
theorem dX9_say_120 : decode cX9_say 120 = .ok (.ldc 197, 2) := by decide +kernel
theorem dX9_say_122 : decode cX9_say 122 = .ok (.if_icmp .ne 7, 3) := by decide +kernel
theorem dX9_say_125 : decode cX9_say 125 = .ok (.iconst 1, 1) := by decide +kernel
theorem dX9_say_126 : decode cX9_say 126 = .ok (.goto 4, 3) := by decide +kernel
theorem dX9_say_129 : decode cX9_say 129 = .ok (.iconst 0, 1) := by decide +kernel
theorem dX9_say_130 : decode cX9_say 130 = .ok (.invokevirtual 66, 3) := by decide +kernel
theorem dX9_say_133 : decode cX9_say 133 = .ok (.invokevirtual 194, 3) := by decide +kernel
theorem dX9_say_136 : decode cX9_say 136 = .ok (.goto 72, 3) := by decide +kernel
theorem dX9_say_139 : decode cX9_say 139 = .ok (.aload_n 0, 1) := by decide +kernel
theorem dX9_say_140 : decode cX9_say 140 = .ok (.aload_n 0, 1) := by decide +kernel
theorem dX9_say_141 : decode cX9_say 141 = .ok (.iload_n 1, 1) := by decide +kernel
theorem dX9_say_142 : decode cX9_say 142 = .ok (.iload_n 2, 1) := by decide +kernel
theorem dX9_say_143 : decode cX9_say 143 = .ok (.invokevirtual 70, 3) := by decide +kernel
theorem dX9_say_146 : decode cX9_say 146 = .ok (.invokevirtual 194, 3) := by decide +kernel
theorem dX9_say_149 : decode cX9_say 149 = .ok (.goto 59, 3) := by decide +kernel
theorem dX9_say_152 : decode cX9_say 152 = .ok (.aload_n 0, 1) := by decide +kernel
theorem dX9_say_153 : decode cX9_say 153 = .ok (.invokevirtual 198, 3) := by decide +kernel
theorem dX9_say_156 : decode cX9_say 156 = .ok (.goto 52, 3) := by decide +kernel
theorem dX9_say_159 : decode cX9_say 159 = .ok (.aload_n 0, 1) := by decide +kernel
theorem dX9_say_160 : decode cX9_say 160 = .ok (.aload_n 0, 1) := by decide +kernel
theorem dX9_say_161 : decode cX9_say 161 = .ok (.iload_n 1, 1) := by decide +kernel
theorem dX9_say_162 : decode cX9_say 162 = .ok (.iload_n 2, 1) := by decide +kernel
theorem dX9_say_163 : decode cX9_say 163 = .ok (.invokevirtual 99, 3) := by decide +kernel
theorem dX9_say_166 : decode cX9_say 166 = .ok (.invokevirtual 194, 3) := by decide +kernel
theorem dX9_say_169 : decode cX9_say 169 = .ok (.goto 39, 3) := by decide +kernel
theorem dX9_say_172 : decode cX9_say 172 = .ok (.aload_n 0, 1) := by decide +kernel
theorem dX9_say_173 : decode cX9_say 173 = .ok (.invokevirtual 201, 3) := by decide +kernel
theorem dX9_say_176 : decode cX9_say 176 = .ok (.goto 32, 3) := by decide +kernel
theorem dX9_say_179 : decode cX9_say 179 = .ok (.aload_n 0, 1) := by decide +kernel
theorem dX9_say_180 : decode cX9_say 180 = .ok (.aload_n 0, 1) := by decide +kernel
theorem dX9_say_181 : decode cX9_say 181 = .ok (.iload_n 1, 1) := by decide +kernel
theorem dX9_say_182 : decode cX9_say 182 = .ok (.iload_n 2, 1) := by decide +kernel
theorem dX9_say_183 : decode cX9_say 183 = .ok (.invokevirtual 126, 3) := by decide +kernel
theorem dX9_say_186 : decode cX9_say 186 = .ok (.invokevirtual 194, 3) := by decide +kernel
theorem dX9_say_189 : decode cX9_say 189 = .ok (.goto 19, 3) := by decide +kernel
theorem dX9_say_192 : decode cX9_say 192 = .ok (.aload_n 0, 1) := by decide +kernel
theorem dX9_say_193 : decode cX9_say 193 = .ok (.invokevirtual 204, 3) := by decide +kernel
theorem dX9_say_196 : decode cX9_say 196 = .ok (.goto 12, 3) := by decide +kernel
theorem dX9_say_199 : decode cX9_say 199 = .ok (.aload_n 0, 1) := by decide +kernel
theorem dX9_say_200 : decode cX9_say 200 = .ok (.aload_n 0, 1) := by decide +kernel
theorem dX9_say_201 : decode cX9_say 201 = .ok (.iload_n 1, 1) := by decide +kernel
theorem dX9_say_202 : decode cX9_say 202 = .ok (.invokevirtual 129, 3) := by decide +kernel
theorem dX9_say_205 : decode cX9_say 205 = .ok (.invokevirtual 194, 3) := by decide +kernel
theorem dX9_say_208 : decode cX9_say 208 = .ok (.return_, 1) := by decide +kernel
set_option maxRecDepth 20000 in
theorem ggX9_says_X9_isMore : GoodIn wsX9_says wsX9_isMore := goodIn_r _ [10, 1, 11, 12, 111, 112, 113, 114, 115, 116, 117, 118, 119, 120, 121, 122, 123, 124, 125, 126, 127, 128, 129, 130, 131, 132] (by decide +kernel) (by decide +kernel)
set_option maxRecDepth 20000 in
theorem gX9_says_X9_isMore : GoodIn wsX9_says (wsV RX9 207 RX9 yX9_isMore wsX9_isMore) := goodIn_app (goodIn_of _ (by decide +kernel)) ggX9_says_X9_isMore
set_option maxRecDepth 20000 in
theorem ggX9_says_X9_isSentence : GoodIn wsX9_says wsX9_isSentence := goodIn_r _ [16, 17, 18, 19, 3, 20, 21, 22, 23, 9, 24, 1, 11, 12, 4, 25, 26, 27, 28, 29, 30, 31, 32, 33, 34, 35, 36, 37, 38, 39, 40, 41, 42, 43, 44, 45, 46, 47, 111, 112, 113, 114, 115, 116, 117, 118, 119, 120, 121, 122, 123, 124, 125, 126, 127, 128, 129, 130, 131, 132] (by decide +kernel) (by decide +kernel)
set_option maxRecDepth 20000 in
theorem gX9_says_X9_isSentence : GoodIn wsX9_says (wsV RX9 211 RX9 yX9_isSentence wsX9_isSentence) := goodIn_app (goodIn_of _ (by decide +kernel)) ggX9_says_X9_isSentence
set_option maxRecDepth 20000 in
theorem ggX9_says_X9_putSign : GoodIn wsX9_says wsX9_putSign := goodIn_r _ [51, 5, 52, 111, 112, 113, 114, 115, 116, 117, 118, 119, 120, 121, 122, 123, 124, 125, 126, 127, 128, 129, 130, 131, 132] (by decide +kernel) (by decide +kernel)
set_option maxRecDepth 20000 in
theorem gX9_says_X9_putSign : GoodIn wsX9_says (wsV RX9 190 RX9 yX9_putSign wsX9_putSign) := goodIn_app (goodIn_of _ (by decide +kernel)) ggX9_says_X9_putSign
set_option maxRecDepth 20000 in
theorem ggX9_says_X9_say : GoodIn wsX9_says wsX9_say := goodIn_r _ [56, 20, 18, 57, 58, 59, 60, 9, 61, 62, 2, 63, 64, 65, 66, 67, 68, 48, 49, 50, 51, 5, 52, 69, 70, 71, 72, 73, 74, 75, 76, 77, 78, 79, 80, 81, 82, 83, 84, 85, 86, 87, 88, 89, 90, 91, 92, 93, 94, 95, 96, 97, 98, 99, 100, 101, 102, 103, 104, 105, 106, 107, 108, 109, 110, 111, 112, 113, 114, 115, 116, 117, 118, 119, 120, 121, 122, 123, 124, 125, 126, 127, 128, 129, 130, 131, 132] (by decide +kernel) (by decide +kernel)
set_option maxRecDepth 20000 in
theorem gX9_says_X9_say : GoodIn wsX9_says (wsV RX9 214 RX9 yX9_say wsX9_say) := goodIn_app (goodIn_of _ (by decide +kernel)) ggX9_says_X9_say
theorem dX9_says_0 : decode cX9_says 0 = .ok (.aload_n 0, 1) := by decide +kernel
theorem dX9_says_1 : decode cX9_says 1 = .ok (.iconst 0, 1) := by decide +kernel
theorem dX9_says_2 : decode cX9_says 2 = .ok (.putfield 151, 3) := by decide +kernel
theorem dX9_says_5 : decode cX9_says 5 = .ok (.aload_n 0, 1) := by decide +kernel
theorem dX9_says_6 : decode cX9_says 6 = .ok (.aload_n 0, 1) := by decide +kernel
theorem dX9_says_7 : decode cX9_says 7 = .ok (.getfield 35, 3) := by decide +kernel
theorem dX9_says_10 : decode cX9_says 10 = .ok (.putfield 173, 3) := by decide +kernel
theorem dX9_says_13 : decode cX9_says 13 = .ok (.iconst 0, 1) := by decide +kernel
theorem dX9_says_14 : decode cX9_says 14 = .ok (.istore_n 1, 1) := by decide +kernel
theorem dX9_says_15 : decode cX9_says 15 = .ok (.iload_n 1, 1) := by decide +kernel
theorem dX9_says_16 : decode cX9_says 16 = .ok (.ifCond .eq 10, 3) := by decide +kernel
theorem dX9_says_19 : decode cX9_says 19 = .ok (.aload_n 0, 1) := by decide +kernel
theorem dX9_says_20 : decode cX9_says 20 = .ok (.invokevirtual 207, 3) := by decide +kernel
theorem dX9_says_23 : decode cX9_says 23 = .ok (.ifCond .eq 24, 3) := by decide +kernel
theorem dX9_says_26 : decode cX9_says 26 = .ok (.aload_n 0, 1) := by decide +kernel
theorem dX9_says_27 : decode cX9_says 27 = .ok (.invokevirtual 211, 3) := by decide +kernel
theorem dX9_says_30 : decode cX9_says 30 = .ok (.ifCond .ne 11, 3) := by decide +kernel
theorem dX9_says_33 : decode cX9_says 33 = .ok (.bipush (-10), 2) := by decide +kernel
theorem dX9_says_35 : decode cX9_says 35 = .ok (.aload_n 0, 1) := by decide +kernel
theorem dX9_says_36 : decode cX9_says 36 = .ok (.getfield 154, 3) := by decide +kernel
theorem dX9_says_39 : decode cX9_says 39 = .ok (.isub, 1) := by decide +kernel
theorem dX9_says_40 : decode cX9_says 40 = .ok (.ireturn, 1) := by decide +kernel
theorem dX9_says_41 : decode cX9_says 41 = .ok (.iinc 1 1, 3) := by decide +kernel
theorem dX9_says_44 : decode cX9_says 44 = .ok (.goto (-29), 3) := by decide +kernel
theorem dX9_says_47 : decode cX9_says 47 = .ok (.aload_n 0, 1) := by decide +kernel
theorem dX9_says_48 : decode cX9_says 48 = .ok (.iconst 0, 1) := by decide +kernel
theorem dX9_says_49 : decode cX9_says 49 = .ok (.putfield 151, 3) := by decide +kernel
theorem dX9_says_52 : decode cX9_says 52 = .ok (.aload_n 0, 1) := by decide +kernel
theorem dX9_says_53 : decode cX9_says 53 = .ok (.aload_n 0, 1) := by decide +kernel
theorem dX9_says_54 : decode cX9_says 54 = .ok (.getfield 35, 3) := by decide +kernel
theorem dX9_says_57 : decode cX9_says 57 = .ok (.putfield 173, 3) := by decide +kernel
theorem dX9_says_60 : decode cX9_says 60 = .ok (.aload_n 0, 1) := by decide +kernel
theorem dX9_says_61 : decode cX9_says 61 = .ok (.iconst 0, 1) := by decide +kernel
theorem dX9_says_62 : decode cX9_says 62 = .ok (.putfield 187, 3) := by decide +kernel
theorem dX9_says_65 : decode cX9_says 65 = .ok (.iconst 0, 1) := by decide +kernel
theorem dX9_says_66 : decode cX9_says 66 = .ok (.istore_n 2, 1) := by decide +kernel
theorem dX9_says_67 : decode cX9_says 67 = .ok (.iload_n 2, 1) := by decide +kernel
theorem dX9_says_68 : decode cX9_says 68 = .ok (.iload_n 1, 1) := by decide +kernel
theorem dX9_says_69 : decode cX9_says 69 = .ok (.if_icmp .ge 28, 3) := by decide +kernel
theorem dX9_says_72 : decode cX9_says 72 = .ok (.aload_n 0, 1) := by decide +kernel
theorem dX9_says_73 : decode cX9_says 73 = .ok (.invokevirtual 211, 3) := by decide +kernel
theorem dX9_says_76 : decode cX9_says 76 = .ok (.pop, 1) := by decide +kernel
theorem dX9_says_77 : decode cX9_says 77 = .ok (.iload_n 2, 1) := by decide +kernel
theorem dX9_says_78 : decode cX9_says 78 = .ok (.ifCond .le 9, 3) := by decide +kernel
theorem dX9_says_81 : decode cX9_says 81 = .ok (.aload_n 0, 1) := by decide +kernel
theorem dX9_says_82 : decode cX9_says 82 = .ok (.bipush 32, 2) := by decide +kernel
theorem dX9_says_84 : decode cX9_says 84 = .ok (.invokevirtual 190, 3) := by decide +kernel
theorem dX9_says_87 : decode cX9_says 87 = .ok (.aload_n 0, 1) := by decide +kernel
theorem dX9_says_88 : decode cX9_says 88 = .ok (.invokevirtual 214, 3) := by decide +kernel
theorem dX9_says_91 : decode cX9_says 91 = .ok (.iinc 2 1, 3) := by decide +kernel
theorem dX9_says_94 : decode cX9_says 94 = .ok (.goto (-27), 3) := by decide +kernel
theorem dX9_says_97 : decode cX9_says 97 = .ok (.iload_n 1, 1) := by decide +kernel
theorem dX9_says_98 : decode cX9_says 98 = .ok (.ireturn, 1) := by decide +kernel
set_option maxRecDepth 20000 in
theorem ggX9_answer_X9_refuse : GoodIn wsX9_answer wsX9_refuse := goodIn_r _ [7, 8, 9, 10, 11, 12, 13, 14, 15, 16, 17, 18, 19, 20, 21, 22, 23, 24, 25, 26, 27, 28, 29, 30] (by decide +kernel) (by decide +kernel)
set_option maxRecDepth 20000 in
theorem gX9_answer_X9_refuse : GoodIn wsX9_answer (wsV RX9 55 RX9 yX9_refuse wsX9_refuse) := goodIn_app (goodIn_of _ (by decide +kernel)) ggX9_answer_X9_refuse
theorem dX9_answer_0 : decode cX9_answer 0 = .ok (.iload_n 1, 1) := by decide +kernel
theorem dX9_answer_1 : decode cX9_answer 1 = .ok (.iconst (-1), 1) := by decide +kernel
theorem dX9_answer_2 : decode cX9_answer 2 = .ok (.if_icmp .ge 11, 3) := by decide +kernel
theorem dX9_answer_5 : decode cX9_answer 5 = .ok (.aload_n 0, 1) := by decide +kernel
theorem dX9_answer_6 : decode cX9_answer 6 = .ok (.invokevirtual 55, 3) := by decide +kernel
theorem dX9_answer_9 : decode cX9_answer 9 = .ok (.pop, 1) := by decide +kernel
theorem dX9_answer_10 : decode cX9_answer 10 = .ok (.bipush (-10), 2) := by decide +kernel
theorem dX9_answer_12 : decode cX9_answer 12 = .ok (.ireturn, 1) := by decide +kernel
theorem dX9_answer_13 : decode cX9_answer 13 = .ok (.iload_n 1, 1) := by decide +kernel
theorem dX9_answer_14 : decode cX9_answer 14 = .ok (.iconst (-1), 1) := by decide +kernel
theorem dX9_answer_15 : decode cX9_answer 15 = .ok (.if_icmp .ne 10, 3) := by decide +kernel
theorem dX9_answer_18 : decode cX9_answer 18 = .ok (.aload_n 0, 1) := by decide +kernel
theorem dX9_answer_19 : decode cX9_answer 19 = .ok (.getfield 187, 3) := by decide +kernel
theorem dX9_answer_22 : decode cX9_answer 22 = .ok (.goto 22, 3) := by decide +kernel
theorem dX9_answer_25 : decode cX9_answer 25 = .ok (.iload_n 1, 1) := by decide +kernel
theorem dX9_answer_26 : decode cX9_answer 26 = .ok (.aload_n 0, 1) := by decide +kernel
theorem dX9_answer_27 : decode cX9_answer 27 = .ok (.getfield 187, 3) := by decide +kernel
theorem dX9_answer_30 : decode cX9_answer 30 = .ok (.if_icmp .ge 12, 3) := by decide +kernel
theorem dX9_answer_33 : decode cX9_answer 33 = .ok (.aload_n 0, 1) := by decide +kernel
theorem dX9_answer_34 : decode cX9_answer 34 = .ok (.getfield 23, 3) := by decide +kernel
theorem dX9_answer_37 : decode cX9_answer 37 = .ok (.iload_n 1, 1) := by decide +kernel
theorem dX9_answer_38 : decode cX9_answer 38 = .ok (.iaload, 1) := by decide +kernel
theorem dX9_answer_39 : decode cX9_answer 39 = .ok (.goto 5, 3) := by decide +kernel
theorem dX9_answer_42 : decode cX9_answer 42 = .ok (.bipush (-5), 2) := by decide +kernel
theorem dX9_answer_44 : decode cX9_answer 44 = .ok (.ireturn, 1) := by decide +kernel
set_option maxRecDepth 20000 in
theorem ggX9_tell_X9_openMany : GoodIn wsX9_tell wsX9_openMany := goodIn_r _ [10, 4, 11, 12, 13, 14, 15, 16, 17, 18, 19, 20, 21, 22, 23, 24, 25, 26, 27, 28, 29, 30, 31, 32, 33] (by decide +kernel) (by decide +kernel)
set_option maxRecDepth 20000 in
theorem gX9_tell_X9_openMany : GoodIn wsX9_tell (wsV RX9 217 RX9 yX9_openMany wsX9_openMany) := goodIn_app (goodIn_of _ (by decide +kernel)) ggX9_tell_X9_openMany
theorem dX9_tell_0 : decode cX9_tell 0 = .ok (.iload_n 1, 1) := by decide +kernel
theorem dX9_tell_1 : decode cX9_tell 1 = .ok (.tableswitch 66 0 5 #[39, 44, 46, 51, 56, 61], 39) := by decide +kernel
theorem dX9_tell_40 : decode cX9_tell 40 = .ok (.aload_n 0, 1) := by decide +kernel
theorem dX9_tell_41 : decode cX9_tell 41 = .ok (.getfield 43, 3) := by decide +kernel
theorem dX9_tell_44 : decode cX9_tell 44 = .ok (.ireturn, 1) := by decide +kernel
theorem dX9_tell_45 : decode cX9_tell 45 = .ok (.iconst 0, 1) := by decide +kernel
theorem dX9_tell_46 : decode cX9_tell 46 = .ok (.ireturn, 1) := by decide +kernel
theorem dX9_tell_47 : decode cX9_tell 47 = .ok (.aload_n 0, 1) := by decide +kernel
theorem dX9_tell_48 : decode cX9_tell 48 = .ok (.getfield 46, 3) := by decide +kernel
theorem dX9_tell_51 : decode cX9_tell 51 = .ok (.ireturn, 1) := by decide +kernel
theorem dX9_tell_52 : decode cX9_tell 52 = .ok (.aload_n 0, 1) := by decide +kernel
theorem dX9_tell_53 : decode cX9_tell 53 = .ok (.getfield 140, 3) := by decide +kernel
theorem dX9_tell_56 : decode cX9_tell 56 = .ok (.ireturn, 1) := by decide +kernel
theorem dX9_tell_57 : decode cX9_tell 57 = .ok (.aload_n 0, 1) := by decide +kernel
theorem dX9_tell_58 : decode cX9_tell 58 = .ok (.getfield 35, 3) := by decide +kernel
theorem dX9_tell_61 : decode cX9_tell 61 = .ok (.ireturn, 1) := by decide +kernel
theorem dX9_tell_62 : decode cX9_tell 62 = .ok (.aload_n 0, 1) := by decide +kernel
theorem dX9_tell_63 : decode cX9_tell 63 = .ok (.invokevirtual 217, 3) := by decide +kernel
theorem dX9_tell_66 : decode cX9_tell 66 = .ok (.ireturn, 1) := by decide +kernel
theorem dX9_tell_67 : decode cX9_tell 67 = .ok (.aload_n 0, 1) := by decide +kernel
theorem dX9_tell_68 : decode cX9_tell 68 = .ok (.getfield 187, 3) := by decide +kernel
theorem dX9_tell_71 : decode cX9_tell 71 = .ok (.ireturn, 1) := by decide +kernel
set_option maxRecDepth 20000 in
theorem ggX9_told_X9_in : GoodIn wsX9_told wsX9_in := goodIn_r _ [5] (by decide +kernel) (by decide +kernel)
set_option maxRecDepth 20000 in
theorem gX9_told_X9_in : GoodIn wsX9_told (va_wsS RX9 39 yX9_in wsX9_in) := goodIn_app (goodIn_of _ (by decide +kernel)) ggX9_told_X9_in
set_option maxRecDepth 20000 in
theorem ggX9_told_X9_tell : GoodIn wsX9_told wsX9_tell := goodIn_r _ [9, 10, 11, 12, 13, 14, 15, 16, 17, 4, 18, 19, 24, 25, 26, 27, 28, 29, 30, 31, 32, 33, 34, 35, 36, 37, 38, 39, 40, 41, 42, 43, 44, 45] (by decide +kernel) (by decide +kernel)
set_option maxRecDepth 20000 in
theorem gX9_told_X9_tell : GoodIn wsX9_told (wsV RX9 222 RX9 yX9_tell wsX9_tell) := goodIn_app (goodIn_of _ (by decide +kernel)) ggX9_told_X9_tell
set_option maxRecDepth 20000 in
theorem ggX9_told_X9_refuse : GoodIn wsX9_told wsX9_refuse := goodIn_r _ [23, 10, 24, 25, 26, 27, 28, 29, 30, 31, 32, 33, 34, 35, 36, 37, 38, 39, 40, 41, 42, 43, 44, 45] (by decide +kernel) (by decide +kernel)
set_option maxRecDepth 20000 in
theorem gX9_told_X9_refuse : GoodIn wsX9_told (wsV RX9 55 RX9 yX9_refuse wsX9_refuse) := goodIn_app (goodIn_of _ (by decide +kernel)) ggX9_told_X9_refuse
theorem dX9_told_0 : decode cX9_told 0 = .ok (.iload_n 1, 1) := by decide +kernel
theorem dX9_told_1 : decode cX9_told 1 = .ok (.i2l, 1) := by decide +kernel
theorem dX9_told_2 : decode cX9_told 2 = .ok (.lconst 0, 1) := by decide +kernel
theorem dX9_told_3 : decode cX9_told 3 = .ok (.ldc2_w 220, 3) := by decide +kernel
theorem dX9_told_6 : decode cX9_told 6 = .ok (.invokestatic 39, 3) := by decide +kernel
theorem dX9_told_9 : decode cX9_told 9 = .ok (.ifCond .eq 11, 3) := by decide +kernel
theorem dX9_told_12 : decode cX9_told 12 = .ok (.aload_n 0, 1) := by decide +kernel
theorem dX9_told_13 : decode cX9_told 13 = .ok (.iload_n 1, 1) := by decide +kernel
theorem dX9_told_14 : decode cX9_told 14 = .ok (.invokevirtual 222, 3) := by decide +kernel
theorem dX9_told_17 : decode cX9_told 17 = .ok (.goto 7, 3) := by decide +kernel
theorem dX9_told_20 : decode cX9_told 20 = .ok (.aload_n 0, 1) := by decide +kernel
theorem dX9_told_21 : decode cX9_told 21 = .ok (.invokevirtual 55, 3) := by decide +kernel
theorem dX9_told_24 : decode cX9_told 24 = .ok (.ireturn, 1) := by decide +kernel
set_option maxRecDepth 20000 in
theorem ggX9_digest_X9_tell : GoodIn wsX9_digest wsX9_tell := goodIn_r _ [10, 11, 12, 13, 3, 4, 14, 15, 16, 9, 17, 18, 25, 26, 27, 28, 29, 30, 31, 32, 33, 34, 35, 36, 37, 38, 39, 40, 41, 42, 43, 44, 45, 46] (by decide +kernel) (by decide +kernel)
set_option maxRecDepth 20000 in
theorem gX9_digest_X9_tell : GoodIn wsX9_digest (wsV RX9 222 RX9 yX9_tell wsX9_tell) := goodIn_app (goodIn_of _ (by decide +kernel)) ggX9_digest_X9_tell
set_option maxRecDepth 20000 in
theorem ggX9_digest_X9_partOf : GoodIn wsX9_digest wsX9_partOf := goodIn_r _ [22, 23, 24, 18, 25, 26, 27, 28, 29, 30, 31, 32, 33, 34, 35, 36, 37, 38, 39, 40, 41, 42, 43, 44, 45, 46] (by decide +kernel) (by decide +kernel)
set_option maxRecDepth 20000 in
theorem gX9_digest_X9_partOf : GoodIn wsX9_digest (wsV RX9 96 RX9 yX9_partOf wsX9_partOf) := goodIn_app (goodIn_of _ (by decide +kernel)) ggX9_digest_X9_partOf
theorem dX9_digest_0 : decode cX9_digest 0 = .ok (.ldc2_w 225, 3) := by decide +kernel
theorem dX9_digest_3 : decode cX9_digest 3 = .ok (.lstore_n 1, 1) := by decide +kernel
theorem dX9_digest_4 : decode cX9_digest 4 = .ok (.iconst 0, 1) := by decide +kernel
theorem dX9_digest_5 : decode cX9_digest 5 = .ok (.istore_n 3, 1) := by decide +kernel
theorem dX9_digest_6 : decode cX9_digest 6 = .ok (.iload_n 3, 1) := by decide +kernel
theorem dX9_digest_7 : decode cX9_digest 7 = .ok (.bipush 7, 2) := by decide +kernel
theorem dX9_digest_9 : decode cX9_digest 9 = .ok (.if_icmp .ge 22, 3) := by decide +kernel
theorem dX9_digest_12 : decode cX9_digest 12 = .ok (.ldc2_w 227, 3) := by decide +kernel
theorem dX9_digest_15 : decode cX9_digest 15 = .ok (.lload_n 1, 1) := by decide +kernel
theorem dX9_digest_16 : decode cX9_digest 16 = .ok (.lmul, 1) := by decide +kernel
theorem dX9_digest_17 : decode cX9_digest 17 = .ok (.aload_n 0, 1) := by decide +kernel
theorem dX9_digest_18 : decode cX9_digest 18 = .ok (.iload_n 3, 1) := by decide +kernel
theorem dX9_digest_19 : decode cX9_digest 19 = .ok (.invokevirtual 222, 3) := by decide +kernel
theorem dX9_digest_22 : decode cX9_digest 22 = .ok (.i2l, 1) := by decide +kernel
theorem dX9_digest_23 : decode cX9_digest 23 = .ok (.ladd, 1) := by decide +kernel
theorem dX9_digest_24 : decode cX9_digest 24 = .ok (.lstore_n 1, 1) := by decide +kernel
theorem dX9_digest_25 : decode cX9_digest 25 = .ok (.iinc 3 1, 3) := by decide +kernel
theorem dX9_digest_28 : decode cX9_digest 28 = .ok (.goto (-22), 3) := by decide +kernel
theorem dX9_digest_31 : decode cX9_digest 31 = .ok (.iconst 0, 1) := by decide +kernel
theorem dX9_digest_32 : decode cX9_digest 32 = .ok (.istore_n 3, 1) := by decide +kernel
theorem dX9_digest_33 : decode cX9_digest 33 = .ok (.iload_n 3, 1) := by decide +kernel
theorem dX9_digest_34 : decode cX9_digest 34 = .ok (.aload_n 0, 1) := by decide +kernel
theorem dX9_digest_35 : decode cX9_digest 35 = .ok (.getfield 35, 3) := by decide +kernel
theorem dX9_digest_38 : decode cX9_digest 38 = .ok (.if_icmp .ge 39, 3) := by decide +kernel
theorem dX9_digest_41 : decode cX9_digest 41 = .ok (.iconst 0, 1) := by decide +kernel
theorem dX9_digest_42 : decode cX9_digest 42 = .ok (.istore 4, 2) := by decide +kernel
theorem dX9_digest_44 : decode cX9_digest 44 = .ok (.iload 4, 2) := by decide +kernel
theorem dX9_digest_46 : decode cX9_digest 46 = .ok (.iconst 3, 1) := by decide +kernel
theorem dX9_digest_47 : decode cX9_digest 47 = .ok (.if_icmp .ge 24, 3) := by decide +kernel
theorem dX9_digest_50 : decode cX9_digest 50 = .ok (.ldc2_w 227, 3) := by decide +kernel
theorem dX9_digest_53 : decode cX9_digest 53 = .ok (.lload_n 1, 1) := by decide +kernel
theorem dX9_digest_54 : decode cX9_digest 54 = .ok (.lmul, 1) := by decide +kernel
theorem dX9_digest_55 : decode cX9_digest 55 = .ok (.aload_n 0, 1) := by decide +kernel
theorem dX9_digest_56 : decode cX9_digest 56 = .ok (.iload_n 3, 1) := by decide +kernel
theorem dX9_digest_57 : decode cX9_digest 57 = .ok (.iload 4, 2) := by decide +kernel
theorem dX9_digest_59 : decode cX9_digest 59 = .ok (.invokevirtual 96, 3) := by decide +kernel
theorem dX9_digest_62 : decode cX9_digest 62 = .ok (.i2l, 1) := by decide +kernel
theorem dX9_digest_63 : decode cX9_digest 63 = .ok (.ladd, 1) := by decide +kernel
theorem dX9_digest_64 : decode cX9_digest 64 = .ok (.lstore_n 1, 1) := by decide +kernel
theorem dX9_digest_65 : decode cX9_digest 65 = .ok (.iinc 4 1, 3) := by decide +kernel
theorem dX9_digest_68 : decode cX9_digest 68 = .ok (.goto (-24), 3) := by decide +kernel
theorem dX9_digest_71 : decode cX9_digest 71 = .ok (.iinc 3 1, 3) := by decide +kernel
theorem dX9_digest_74 : decode cX9_digest 74 = .ok (.goto (-41), 3) := by decide +kernel
theorem dX9_digest_77 : decode cX9_digest 77 = .ok (.iconst 0, 1) := by decide +kernel
theorem dX9_digest_78 : decode cX9_digest 78 = .ok (.istore_n 3, 1) := by decide +kernel
theorem dX9_digest_79 : decode cX9_digest 79 = .ok (.iload_n 3, 1) := by decide +kernel
theorem dX9_digest_80 : decode cX9_digest 80 = .ok (.aload_n 0, 1) := by decide +kernel
theorem dX9_digest_81 : decode cX9_digest 81 = .ok (.getfield 187, 3) := by decide +kernel
theorem dX9_digest_84 : decode cX9_digest 84 = .ok (.if_icmp .ge 23, 3) := by decide +kernel
theorem dX9_digest_87 : decode cX9_digest 87 = .ok (.ldc2_w 227, 3) := by decide +kernel
theorem dX9_digest_90 : decode cX9_digest 90 = .ok (.lload_n 1, 1) := by decide +kernel
theorem dX9_digest_91 : decode cX9_digest 91 = .ok (.lmul, 1) := by decide +kernel
theorem dX9_digest_92 : decode cX9_digest 92 = .ok (.aload_n 0, 1) := by decide +kernel
theorem dX9_digest_93 : decode cX9_digest 93 = .ok (.getfield 23, 3) := by decide +kernel
theorem dX9_digest_96 : decode cX9_digest 96 = .ok (.iload_n 3, 1) := by decide +kernel
theorem dX9_digest_97 : decode cX9_digest 97 = .ok (.iaload, 1) := by decide +kernel
theorem dX9_digest_98 : decode cX9_digest 98 = .ok (.i2l, 1) := by decide +kernel
theorem dX9_digest_99 : decode cX9_digest 99 = .ok (.ladd, 1) := by decide +kernel
theorem dX9_digest_100 : decode cX9_digest 100 = .ok (.lstore_n 1, 1) := by decide +kernel
theorem dX9_digest_101 : decode cX9_digest 101 = .ok (.iinc 3 1, 3) := by decide +kernel
theorem dX9_digest_104 : decode cX9_digest 104 = .ok (.goto (-25), 3) := by decide +kernel
theorem dX9_digest_107 : decode cX9_digest 107 = .ok (.lload_n 1, 1) := by decide +kernel
theorem dX9_digest_108 : decode cX9_digest 108 = .ok (.lreturn, 1) := by decide +kernel
end
section
theorem dJ9_max_7cf53_0 : decode cJ9_max_7cf53 0 = .ok (.iload_n 0, 1) := by decide +kernel
theorem dJ9_max_7cf53_1 : decode cJ9_max_7cf53 1 = .ok (.iload_n 1, 1) := by decide +kernel
theorem dJ9_max_7cf53_2 : decode cJ9_max_7cf53 2 = .ok (.if_icmp .lt 7, 3) := by decide +kernel
theorem dJ9_max_7cf53_5 : decode cJ9_max_7cf53 5 = .ok (.iload_n 0, 1) := by decide +kernel
theorem dJ9_max_7cf53_6 : decode cJ9_max_7cf53 6 = .ok (.goto 4, 3) := by decide +kernel
theorem dJ9_max_7cf53_9 : decode cJ9_max_7cf53 9 = .ok (.iload_n 1, 1) := by decide +kernel
theorem dJ9_max_7cf53_10 : decode cJ9_max_7cf53 10 = .ok (.ireturn, 1) := by decide +kernel
theorem dJ9_min_7cf53_0 : decode cJ9_min_7cf53 0 = .ok (.iload_n 0, 1) := by decide +kernel
theorem dJ9_min_7cf53_1 : decode cJ9_min_7cf53 1 = .ok (.iload_n 1, 1) := by decide +kernel
theorem dJ9_min_7cf53_2 : decode cJ9_min_7cf53 2 = .ok (.if_icmp .gt 7, 3) := by decide +kernel
theorem dJ9_min_7cf53_5 : decode cJ9_min_7cf53 5 = .ok (.iload_n 0, 1) := by decide +kernel
theorem dJ9_min_7cf53_6 : decode cJ9_min_7cf53 6 = .ok (.goto 4, 3) := by decide +kernel
theorem dJ9_min_7cf53_9 : decode cJ9_min_7cf53 9 = .ok (.iload_n 1, 1) := by decide +kernel
theorem dJ9_min_7cf53_10 : decode cJ9_min_7cf53 10 = .ok (.ireturn, 1) := by decide +kernel
set_option maxRecDepth 20000 in
theorem ggJ0_length_8abf5_J0_coder_7d493 : GoodIn wsJ0_length_8abf5 wsJ0_coder_7d493 := goodIn_r _ [6, 7, 8] (by decide +kernel) (by decide +kernel)
set_option maxRecDepth 20000 in
theorem gJ0_length_8abf5_J0_coder_7d493 : GoodIn wsJ0_length_8abf5 (wsV RJ0 335 RJ0 yJ0_coder_7d493 wsJ0_coder_7d493) := goodIn_app (goodIn_of _ (by decide +kernel)) ggJ0_length_8abf5_J0_coder_7d493
theorem dJ0_length_8abf5_0 : decode cJ0_length_8abf5 0 = .ok (.aload_n 0, 1) := by decide +kernel
theorem dJ0_length_8abf5_1 : decode cJ0_length_8abf5 1 = .ok (.getfield 9, 3) := by decide +kernel
theorem dJ0_length_8abf5_4 : decode cJ0_length_8abf5 4 = .ok (.arraylength, 1) := by decide +kernel
theorem dJ0_length_8abf5_5 : decode cJ0_length_8abf5 5 = .ok (.aload_n 0, 1) := by decide +kernel
theorem dJ0_length_8abf5_6 : decode cJ0_length_8abf5 6 = .ok (.invokevirtual 335, 3) := by decide +kernel
theorem dJ0_length_8abf5_9 : decode cJ0_length_8abf5 9 = .ok (.ishr, 1) := by decide +kernel
theorem dJ0_length_8abf5_10 : decode cJ0_length_8abf5 10 = .ok (.ireturn, 1) := by decide +kernel
set_option maxRecDepth 20000 in
theorem ggJ0_charAt_5068e_J0_isLatin1_aae02 : GoodIn wsJ0_charAt_5068e wsJ0_isLatin1_aae02 := goodIn_r _ [6, 7, 8] (by decide +kernel) (by decide +kernel)
set_option maxRecDepth 20000 in
theorem gJ0_charAt_5068e_J0_isLatin1_aae02 : GoodIn wsJ0_charAt_5068e (wsV RJ0 492 RJ0 yJ0_isLatin1_aae02 wsJ0_isLatin1_aae02) := goodIn_app (goodIn_of _ (by decide +kernel)) ggJ0_charAt_5068e_J0_isLatin1_aae02
set_option maxRecDepth 20000 in
theorem ggJ0_charAt_5068e_J1_charAt_3b067 : GoodIn wsJ0_charAt_5068e wsJ1_charAt_3b067 := goodIn_r _ [12, 13, 14, 5, 15, 16, 17, 18, 19, 20] (by decide +kernel) (by decide +kernel)
set_option maxRecDepth 20000 in
theorem gJ0_charAt_5068e_J1_charAt_3b067 : GoodIn wsJ0_charAt_5068e (va_wsS RJ0 495 yJ1_charAt_3b067 wsJ1_charAt_3b067) := goodIn_app (goodIn_of _ (by decide +kernel)) ggJ0_charAt_5068e_J1_charAt_3b067
set_option maxRecDepth 20000 in
theorem ggJ0_charAt_5068e_J2_charAt_3b067 : GoodIn wsJ0_charAt_5068e wsJ2_charAt_3b067 := goodIn_r _ [24, 25, 26, 23, 27, 28, 29, 30, 31, 14, 5, 15, 16, 17, 18, 19, 20, 32, 33, 34, 35, 36, 37] (by decide +kernel) (by decide +kernel)
set_option maxRecDepth 20000 in
theorem gJ0_charAt_5068e_J2_charAt_3b067 : GoodIn wsJ0_charAt_5068e (va_wsS RJ0 498 yJ2_charAt_3b067 wsJ2_charAt_3b067) := goodIn_app (goodIn_of _ (by decide +kernel)) ggJ0_charAt_5068e_J2_charAt_3b067
theorem dJ0_charAt_5068e_0 : decode cJ0_charAt_5068e 0 = .ok (.aload_n 0, 1) := by decide +kernel
theorem dJ0_charAt_5068e_1 : decode cJ0_charAt_5068e 1 = .ok (.invokevirtual 492, 3) := by decide +kernel
theorem dJ0_charAt_5068e_4 : decode cJ0_charAt_5068e 4 = .ok (.ifCond .eq 12, 3) := by decide +kernel
theorem dJ0_charAt_5068e_7 : decode cJ0_charAt_5068e 7 = .ok (.aload_n 0, 1) := by decide +kernel
theorem dJ0_charAt_5068e_8 : decode cJ0_charAt_5068e 8 = .ok (.getfield 9, 3) := by decide +kernel
theorem dJ0_charAt_5068e_11 : decode cJ0_charAt_5068e 11 = .ok (.iload_n 1, 1) := by decide +kernel
theorem dJ0_charAt_5068e_12 : decode cJ0_charAt_5068e 12 = .ok (.invokestatic 495, 3) := by decide +kernel
theorem dJ0_charAt_5068e_15 : decode cJ0_charAt_5068e 15 = .ok (.ireturn, 1) := by decide +kernel
theorem dJ0_charAt_5068e_16 : decode cJ0_charAt_5068e 16 = .ok (.aload_n 0, 1) := by decide +kernel
theorem dJ0_charAt_5068e_17 : decode cJ0_charAt_5068e 17 = .ok (.getfield 9, 3) := by decide +kernel
theorem dJ0_charAt_5068e_20 : decode cJ0_charAt_5068e 20 = .ok (.iload_n 1, 1) := by decide +kernel
theorem dJ0_charAt_5068e_21 : decode cJ0_charAt_5068e 21 = .ok (.invokestatic 498, 3) := by decide +kernel
theorem dJ0_charAt_5068e_24 : decode cJ0_charAt_5068e 24 = .ok (.ireturn, 1) := by decide +kernel
theorem dJ0_coder_7d493_0 : decode cJ0_coder_7d493 0 = .ok (.getstatic 38, 3) := by decide +kernel
theorem dJ0_coder_7d493_3 : decode cJ0_coder_7d493 3 = .ok (.ifCond .eq 10, 3) := by decide +kernel
theorem dJ0_coder_7d493_6 : decode cJ0_coder_7d493 6 = .ok (.aload_n 0, 1) := by decide +kernel
theorem dJ0_coder_7d493_7 : decode cJ0_coder_7d493 7 = .ok (.getfield 15, 3) := by decide +kernel
theorem dJ0_coder_7d493_10 : decode cJ0_coder_7d493 10 = .ok (.goto 4, 3) := by decide +kernel
theorem dJ0_coder_7d493_13 : decode cJ0_coder_7d493 13 = .ok (.iconst 1, 1) := by decide +kernel
theorem dJ0_coder_7d493_14 : decode cJ0_coder_7d493 14 = .ok (.ireturn, 1) := by decide +kernel
theorem dJ0_isLatin1_aae02_0 : decode cJ0_isLatin1_aae02 0 = .ok (.getstatic 38, 3) := by decide +kernel
theorem dJ0_isLatin1_aae02_3 : decode cJ0_isLatin1_aae02 3 = .ok (.ifCond .eq 14, 3) := by decide +kernel
theorem dJ0_isLatin1_aae02_6 : decode cJ0_isLatin1_aae02 6 = .ok (.aload_n 0, 1) := by decide +kernel
theorem dJ0_isLatin1_aae02_7 : decode cJ0_isLatin1_aae02 7 = .ok (.getfield 15, 3) := by decide +kernel
theorem dJ0_isLatin1_aae02_10 : decode cJ0_isLatin1_aae02 10 = .ok (.ifCond .ne 7, 3) := by decide +kernel
theorem dJ0_isLatin1_aae02_13 : decode cJ0_isLatin1_aae02 13 = .ok (.iconst 1, 1) := by decide +kernel
theorem dJ0_isLatin1_aae02_14 : decode cJ0_isLatin1_aae02 14 = .ok (.goto 4, 3) := by decide +kernel
theorem dJ0_isLatin1_aae02_17 : decode cJ0_isLatin1_aae02 17 = .ok (.iconst 0, 1) := by decide +kernel
theorem dJ0_isLatin1_aae02_18 : decode cJ0_isLatin1_aae02 18 = .ok (.ireturn, 1) := by decide +kernel
set_option maxRecDepth 20000 in
theorem ggJ0_checkIndex_df160_J3_checkIndex_8e157 : GoodIn wsJ0_checkIndex_df160 wsJ3_checkIndex_8e157 := goodIn_r _ [5] (by decide +kernel) (by decide +kernel)
set_option maxRecDepth 20000 in
theorem gJ0_checkIndex_df160_J3_checkIndex_8e157 : GoodIn wsJ0_checkIndex_df160 (va_wsS RJ0 1059 yJ3_checkIndex_8e157 wsJ3_checkIndex_8e157) := goodIn_app (goodIn_of _ (by decide +kernel)) ggJ0_checkIndex_df160_J3_checkIndex_8e157
theorem dJ0_checkIndex_df160_0 : decode cJ0_checkIndex_df160 0 = .ok (.iload_n 0, 1) := by decide +kernel
theorem dJ0_checkIndex_df160_1 : decode cJ0_checkIndex_df160 1 = .ok (.iload_n 1, 1) := by decide +kernel
theorem dJ0_checkIndex_df160_2 : decode cJ0_checkIndex_df160 2 = .ok (.getstatic 1053, 3) := by decide +kernel
theorem dJ0_checkIndex_df160_5 : decode cJ0_checkIndex_df160 5 = .ok (.invokestatic 1059, 3) := by decide +kernel
theorem dJ0_checkIndex_df160_8 : decode cJ0_checkIndex_df160 8 = .ok (.pop, 1) := by decide +kernel
theorem dJ0_checkIndex_df160_9 : decode cJ0_checkIndex_df160 9 = .ok (.return_, 1) := by decide +kernel
set_option maxRecDepth 20000 in
theorem ggJ1_charAt_3b067_J0_checkIndex_df160 : GoodIn wsJ1_charAt_3b067 wsJ0_checkIndex_df160 := goodIn_r _ [4, 5, 6, 7, 8, 9] (by decide +kernel) (by decide +kernel)
set_option maxRecDepth 20000 in
theorem gJ1_charAt_3b067_J0_checkIndex_df160 : GoodIn wsJ1_charAt_3b067 (va_wsS RJ1 9 yJ0_checkIndex_df160 wsJ0_checkIndex_df160) := goodIn_app (goodIn_of _ (by decide +kernel)) ggJ1_charAt_3b067_J0_checkIndex_df160
theorem dJ1_charAt_3b067_0 : decode cJ1_charAt_3b067 0 = .ok (.iload_n 1, 1) := by decide +kernel
theorem dJ1_charAt_3b067_1 : decode cJ1_charAt_3b067 1 = .ok (.aload_n 0, 1) := by decide +kernel
theorem dJ1_charAt_3b067_2 : decode cJ1_charAt_3b067 2 = .ok (.arraylength, 1) := by decide +kernel
theorem dJ1_charAt_3b067_3 : decode cJ1_charAt_3b067 3 = .ok (.invokestatic 9, 3) := by decide +kernel
theorem dJ1_charAt_3b067_6 : decode cJ1_charAt_3b067 6 = .ok (.aload_n 0, 1) := by decide +kernel
theorem dJ1_charAt_3b067_7 : decode cJ1_charAt_3b067 7 = .ok (.iload_n 1, 1) := by decide +kernel
theorem dJ1_charAt_3b067_8 : decode cJ1_charAt_3b067 8 = .ok (.baload, 1) := by decide +kernel
theorem dJ1_charAt_3b067_9 : decode cJ1_charAt_3b067 9 = .ok (.sipush 255, 3) := by decide +kernel
theorem dJ1_charAt_3b067_12 : decode cJ1_charAt_3b067 12 = .ok (.iand, 1) := by decide +kernel
theorem dJ1_charAt_3b067_13 : decode cJ1_charAt_3b067 13 = .ok (.i2c, 1) := by decide +kernel
theorem dJ1_charAt_3b067_14 : decode cJ1_charAt_3b067 14 = .ok (.ireturn, 1) := by decide +kernel
set_option maxRecDepth 20000 in
theorem ggJ2_getChar_3b067_J2_length_9d52b : GoodIn wsJ2_getChar_3b067 wsJ2_length_9d52b := goodIn_r _ [7] (by decide +kernel) (by decide +kernel)
set_option maxRecDepth 20000 in
theorem gJ2_getChar_3b067_J2_length_9d52b : GoodIn wsJ2_getChar_3b067 (va_wsS RJ2 48 yJ2_length_9d52b wsJ2_length_9d52b) := goodIn_app (goodIn_of _ (by decide +kernel)) ggJ2_getChar_3b067_J2_length_9d52b
theorem dJ2_getChar_3b067_0 : decode cJ2_getChar_3b067 0 = .ok (.getstatic 44, 3) := by decide +kernel
theorem dJ2_getChar_3b067_3 : decode cJ2_getChar_3b067 3 = .ok (.ifCond .ne 25, 3) := by decide +kernel
theorem dJ2_getChar_3b067_6 : decode cJ2_getChar_3b067 6 = .ok (.iload_n 1, 1) := by decide +kernel
theorem dJ2_getChar_3b067_7 : decode cJ2_getChar_3b067 7 = .ok (.ifCond .lt 11, 3) := by decide +kernel
theorem dJ2_getChar_3b067_10 : decode cJ2_getChar_3b067 10 = .ok (.iload_n 1, 1) := by decide +kernel
theorem dJ2_getChar_3b067_11 : decode cJ2_getChar_3b067 11 = .ok (.aload_n 0, 1) := by decide +kernel
theorem dJ2_getChar_3b067_12 : decode cJ2_getChar_3b067 12 = .ok (.invokestatic 48, 3) := by decide +kernel
theorem dJ2_getChar_3b067_15 : decode cJ2_getChar_3b067 15 = .ok (.if_icmp .lt 13, 3) := by decide +kernel
theorem dJ2_getChar_3b067_18 : decode cJ2_getChar_3b067 18 = .ok (.new 52, 3) := by decide +kernel
theorem dJ2_getChar_3b067_21 : decode cJ2_getChar_3b067 21 = .ok (.dup, 1) := by decide +kernel
theorem dJ2_getChar_3b067_22 : decode cJ2_getChar_3b067 22 = .ok (.ldc 54, 2) := by decide +kernel
theorem dJ2_getChar_3b067_24 : decode cJ2_getChar_3b067 24 = .ok (.invokespecial 56, 3) := by decide +kernel
theorem dJ2_getChar_3b067_27 : decode cJ2_getChar_3b067 27 = .ok (.athrow, 1) := by decide +kernel
theorem dJ2_getChar_3b067_28 : decode cJ2_getChar_3b067 28 = .ok (.iload_n 1, 1) := by decide +kernel
theorem dJ2_getChar_3b067_29 : decode cJ2_getChar_3b067 29 = .ok (.iconst 1, 1) := by decide +kernel
theorem dJ2_getChar_3b067_30 : decode cJ2_getChar_3b067 30 = .ok (.ishl, 1) := by decide +kernel
theorem dJ2_getChar_3b067_31 : decode cJ2_getChar_3b067 31 = .ok (.istore_n 1, 1) := by decide +kernel
theorem dJ2_getChar_3b067_32 : decode cJ2_getChar_3b067 32 = .ok (.aload_n 0, 1) := by decide +kernel
theorem dJ2_getChar_3b067_33 : decode cJ2_getChar_3b067 33 = .ok (.iload_n 1, 1) := by decide +kernel
theorem dJ2_getChar_3b067_34 : decode cJ2_getChar_3b067 34 = .ok (.iinc 1 1, 3) := by decide +kernel
theorem dJ2_getChar_3b067_37 : decode cJ2_getChar_3b067 37 = .ok (.baload, 1) := by decide +kernel
theorem dJ2_getChar_3b067_38 : decode cJ2_getChar_3b067 38 = .ok (.sipush 255, 3) := by decide +kernel
theorem dJ2_getChar_3b067_41 : decode cJ2_getChar_3b067 41 = .ok (.iand, 1) := by decide +kernel
theorem dJ2_getChar_3b067_42 : decode cJ2_getChar_3b067 42 = .ok (.getstatic 59, 3) := by decide +kernel
theorem dJ2_getChar_3b067_45 : decode cJ2_getChar_3b067 45 = .ok (.ishl, 1) := by decide +kernel
theorem dJ2_getChar_3b067_46 : decode cJ2_getChar_3b067 46 = .ok (.aload_n 0, 1) := by decide +kernel
theorem dJ2_getChar_3b067_47 : decode cJ2_getChar_3b067 47 = .ok (.iload_n 1, 1) := by decide +kernel
theorem dJ2_getChar_3b067_48 : decode cJ2_getChar_3b067 48 = .ok (.baload, 1) := by decide +kernel
theorem dJ2_getChar_3b067_49 : decode cJ2_getChar_3b067 49 = .ok (.sipush 255, 3) := by decide +kernel
theorem dJ2_getChar_3b067_52 : decode cJ2_getChar_3b067 52 = .ok (.iand, 1) := by decide +kernel
theorem dJ2_getChar_3b067_53 : decode cJ2_getChar_3b067 53 = .ok (.getstatic 63, 3) := by decide +kernel
theorem dJ2_getChar_3b067_56 : decode cJ2_getChar_3b067 56 = .ok (.ishl, 1) := by decide +kernel
theorem dJ2_getChar_3b067_57 : decode cJ2_getChar_3b067 57 = .ok (.ior, 1) := by decide +kernel
theorem dJ2_getChar_3b067_58 : decode cJ2_getChar_3b067 58 = .ok (.i2c, 1) := by decide +kernel
theorem dJ2_getChar_3b067_59 : decode cJ2_getChar_3b067 59 = .ok (.ireturn, 1) := by decide +kernel
theorem dJ2_length_9d52b_0 : decode cJ2_length_9d52b 0 = .ok (.aload_n 0, 1) := by decide +kernel
theorem dJ2_length_9d52b_1 : decode cJ2_length_9d52b 1 = .ok (.arraylength, 1) := by decide +kernel
theorem dJ2_length_9d52b_2 : decode cJ2_length_9d52b 2 = .ok (.iconst 1, 1) := by decide +kernel
theorem dJ2_length_9d52b_3 : decode cJ2_length_9d52b 3 = .ok (.ishr, 1) := by decide +kernel
theorem dJ2_length_9d52b_4 : decode cJ2_length_9d52b 4 = .ok (.ireturn, 1) := by decide +kernel
set_option maxRecDepth 20000 in
theorem ggJ2_charAt_3b067_J2_checkIndex_2214a : GoodIn wsJ2_charAt_3b067 wsJ2_checkIndex_2214a := goodIn_r _ [4, 5, 6, 3, 7, 8, 9, 10, 11, 12, 13, 14, 15, 16] (by decide +kernel) (by decide +kernel)
set_option maxRecDepth 20000 in
theorem gJ2_charAt_3b067_J2_checkIndex_2214a : GoodIn wsJ2_charAt_3b067 (va_wsS RJ2 67 yJ2_checkIndex_2214a wsJ2_checkIndex_2214a) := goodIn_app (goodIn_of _ (by decide +kernel)) ggJ2_charAt_3b067_J2_checkIndex_2214a
set_option maxRecDepth 20000 in
theorem ggJ2_charAt_3b067_J2_getChar_3b067 : GoodIn wsJ2_charAt_3b067 wsJ2_getChar_3b067 := goodIn_r _ [19, 20, 21, 22, 5, 6, 3, 7] (by decide +kernel) (by decide +kernel)
set_option maxRecDepth 20000 in
theorem gJ2_charAt_3b067_J2_getChar_3b067 : GoodIn wsJ2_charAt_3b067 (va_wsS RJ2 71 yJ2_getChar_3b067 wsJ2_getChar_3b067) := goodIn_app (goodIn_of _ (by decide +kernel)) ggJ2_charAt_3b067_J2_getChar_3b067
theorem dJ2_charAt_3b067_0 : decode cJ2_charAt_3b067 0 = .ok (.iload_n 1, 1) := by decide +kernel
theorem dJ2_charAt_3b067_1 : decode cJ2_charAt_3b067 1 = .ok (.aload_n 0, 1) := by decide +kernel
theorem dJ2_charAt_3b067_2 : decode cJ2_charAt_3b067 2 = .ok (.invokestatic 67, 3) := by decide +kernel
theorem dJ2_charAt_3b067_5 : decode cJ2_charAt_3b067 5 = .ok (.aload_n 0, 1) := by decide +kernel
theorem dJ2_charAt_3b067_6 : decode cJ2_charAt_3b067 6 = .ok (.iload_n 1, 1) := by decide +kernel
theorem dJ2_charAt_3b067_7 : decode cJ2_charAt_3b067 7 = .ok (.invokestatic 71, 3) := by decide +kernel
theorem dJ2_charAt_3b067_10 : decode cJ2_charAt_3b067 10 = .ok (.ireturn, 1) := by decide +kernel
set_option maxRecDepth 20000 in
theorem ggJ2_checkIndex_2214a_J2_length_9d52b : GoodIn wsJ2_checkIndex_2214a wsJ2_length_9d52b := goodIn_r _ [4] (by decide +kernel) (by decide +kernel)
set_option maxRecDepth 20000 in
theorem gJ2_checkIndex_2214a_J2_length_9d52b : GoodIn wsJ2_checkIndex_2214a (va_wsS RJ2 48 yJ2_length_9d52b wsJ2_length_9d52b) := goodIn_app (goodIn_of _ (by decide +kernel)) ggJ2_checkIndex_2214a_J2_length_9d52b
set_option maxRecDepth 20000 in
theorem ggJ2_checkIndex_2214a_J0_checkIndex_df160 : GoodIn wsJ2_checkIndex_2214a wsJ0_checkIndex_df160 := goodIn_r _ [8, 9, 10, 11, 12, 13] (by decide +kernel) (by decide +kernel)
set_option maxRecDepth 20000 in
theorem gJ2_checkIndex_2214a_J0_checkIndex_df160 : GoodIn wsJ2_checkIndex_2214a (va_wsS RJ2 414 yJ0_checkIndex_df160 wsJ0_checkIndex_df160) := goodIn_app (goodIn_of _ (by decide +kernel)) ggJ2_checkIndex_2214a_J0_checkIndex_df160
theorem dJ2_checkIndex_2214a_0 : decode cJ2_checkIndex_2214a 0 = .ok (.iload_n 0, 1) := by decide +kernel
theorem dJ2_checkIndex_2214a_1 : decode cJ2_checkIndex_2214a 1 = .ok (.aload_n 1, 1) := by decide +kernel
theorem dJ2_checkIndex_2214a_2 : decode cJ2_checkIndex_2214a 2 = .ok (.invokestatic 48, 3) := by decide +kernel
theorem dJ2_checkIndex_2214a_5 : decode cJ2_checkIndex_2214a 5 = .ok (.invokestatic 414, 3) := by decide +kernel
theorem dJ2_checkIndex_2214a_8 : decode cJ2_checkIndex_2214a 8 = .ok (.return_, 1) := by decide +kernel
theorem dJ3_checkIndex_8e157_0 : decode cJ3_checkIndex_8e157 0 = .ok (.iload_n 0, 1) := by decide +kernel
theorem dJ3_checkIndex_8e157_1 : decode cJ3_checkIndex_8e157 1 = .ok (.ifCond .lt 8, 3) := by decide +kernel
theorem dJ3_checkIndex_8e157_4 : decode cJ3_checkIndex_8e157 4 = .ok (.iload_n 0, 1) := by decide +kernel
theorem dJ3_checkIndex_8e157_5 : decode cJ3_checkIndex_8e157 5 = .ok (.iload_n 1, 1) := by decide +kernel
theorem dJ3_checkIndex_8e157_6 : decode cJ3_checkIndex_8e157 6 = .ok (.if_icmp .lt 10, 3) := by decide +kernel
theorem dJ3_checkIndex_8e157_9 : decode cJ3_checkIndex_8e157 9 = .ok (.aload_n 2, 1) := by decide +kernel
theorem dJ3_checkIndex_8e157_10 : decode cJ3_checkIndex_8e157 10 = .ok (.iload_n 0, 1) := by decide +kernel
theorem dJ3_checkIndex_8e157_11 : decode cJ3_checkIndex_8e157 11 = .ok (.iload_n 1, 1) := by decide +kernel
theorem dJ3_checkIndex_8e157_12 : decode cJ3_checkIndex_8e157 12 = .ok (.invokestatic 95, 3) := by decide +kernel
theorem dJ3_checkIndex_8e157_15 : decode cJ3_checkIndex_8e157 15 = .ok (.athrow, 1) := by decide +kernel
theorem dJ3_checkIndex_8e157_16 : decode cJ3_checkIndex_8e157 16 = .ok (.iload_n 0, 1) := by decide +kernel
theorem dJ3_checkIndex_8e157_17 : decode cJ3_checkIndex_8e157 17 = .ok (.ireturn, 1) := by decide +kernel
end
section
/-! The base of the walks: guards, loops with fuel, contracts of methods that read and of methods that write, their calls. -/
def gI (i : Int32) (n : Nat) : Bool := !(decide (i < 0)) && decide (i.toNatClampNeg < n)
theorem gI_in {i : Int32} {n : Nat} (h : gI i n = true) : vp_in i n := by
  simp only [gI, Bool.and_eq_true, Bool.not_eq_true', decide_eq_false_iff_not, decide_eq_true_eq] at h
  exact fun q => q.elim h.1 (fun q => absurd h.2 (Nat.not_lt.mpr q))
def gN (y : Int32) : Bool := !(decide (y = 0))
theorem gN_ne {y : Int32} (h : gN y = true) : ¬ y = 0 := by
  simp only [gN, Bool.not_eq_true', decide_eq_false_iff_not] at h
  exact h
def gM (y : Int64) : Bool := !(decide (y = 0))
theorem gM_ne {y : Int64} (h : gM y = true) : ¬ y = 0 := by
  simp only [gM, Bool.not_eq_true', decide_eq_false_iff_not] at h
  exact h
theorem og {c : Bool} {α : Type} {x : Option α} {r : α} (h : (if c = true then x else none) = some r) : c = true ∧ x = some r := by
  cases c with
  | true => exact ⟨rfl, h⟩
  | false => exact absurd h (by simp)
theorem ob {α β : Type} {x : Option α} {f : α → Option β} {r : β} (h : x.bind f = some r) : ∃ a, x = some a ∧ f a = some r := by
  cases x with
  | none => exact absurd h (by simp)
  | some a => exact ⟨a, rfl, h⟩
/-- a loop with fuel: its body says what goes on -/
def lp {V Z : Type} (F : (V → Option Z) → V → Option Z) : Nat → V → Option Z
  | 0 => fun _ => none
  | n + 1 => F (lp F n)
theorem lp_0 {V Z : Type} {F : (V → Option Z) → V → Option Z} {v : V} {z : Z} (h : lp F 0 v = some z) : False := by
  exact absurd h (by simp [lp])
theorem lp_s {V Z : Type} {F : (V → Option Z) → V → Option Z} {n : Nat} {v : V} {z : Z} (h : lp F (n + 1) v = some z) : F (lp F n) v = some z := h
/-- addresses: apart, and in A -/
def AD (A : Nat → Prop) (ad : Nat → Nat) (n : Nat) : Prop := (∀ i j : Nat, i < n → j < n → ad i = ad j → i = j) ∧ ∀ i : Nat, i < n → A (ad i)
theorem AD_D {A : Nat → Prop} {ad : Nat → Nat} {n : Nat} (h : AD A ad n) {ws : va_W} (hw : ws.map Prod.fst = (List.range n).map ad) : va_D A ws := by
  have key : ∀ (k : Nat) (q : Nat × va_E), ws[k]? = some q → k < n ∧ q.1 = ad k := by
    intro k q hq
    have h1 : (ws.map Prod.fst)[k]? = some q.1 := by rw [List.getElem?_map, hq]; rfl
    rw [hw, List.getElem?_map] at h1
    by_cases hk : k < n
    · rw [List.getElem?_range hk] at h1
      exact ⟨hk, (Option.some.inj h1).symm⟩
    · rw [List.getElem?_eq_none (by simp; omega)] at h1
      exact absurd h1 (by simp)
  refine ⟨fun i j p q hi hj e => ?_, fun k q hq => ?_⟩
  · obtain ⟨h1, h2⟩ := key i p hi
    obtain ⟨h3, h4⟩ := key j q hj
    exact h.1 i j h1 h3 (by rw [← h2, ← h4, e])
  · obtain ⟨h1, h2⟩ := key k q hq
    rw [h2]
    exact h.2 k h1
abbrev rmN (f lo : Nat) : Room := { frames := f, cells := 0, slots := 0, locals := lo }
def FU : Nat := 1000
abbrev tyL (cI cB cZ : ClassId) : List (ClassId × FieldType) := [(cI, .int), (cB, .byte), (cZ, .boolean)]
/-- a method that reads: the cells are there -/
def PR (D : va_G) (tys : List (ClassId × FieldType)) (ws : va_W) (av : List Value) : Array Value → State → Prop := va_Pc av (fun U => va_P D vwCl ws U.heap ∧ va_K D vwCl tys U)
/-- a static method over numbers -/
def PS (av : List Value) : Array Value → State → Prop := va_Pc av (fun _ => True)
theorem PR_fb {D : va_G} {tys : List (ClassId × FieldType)} {ws : va_W} {av : List Value} : FrameBlind (PR D tys ws av) := fun a U g mk q => by
  obtain ⟨q0, qP, qK⟩ := q
  exact ⟨q0, qP, va_K.moved (u := U) (U := U.calling g mk a) (Vm.Alike.refl U.vm) qK⟩
theorem PS_fb {av : List Value} : FrameBlind (PS av) := fun _ _ _ _ q => q
def SI (val : Int32) : Array Value → State → Outcome → State → Prop := vp_Si (fun r => r = val)
def SL (val : Int64) : Array Value → State → Outcome → State → Prop := vp_Sl (fun r => r = val)
def QI (D : va_G) (ws' : va_W) (A : Nat → Prop) (val : Int32) : Array Value → State → Outcome → State → Prop := va_Qi (S := Unit) (fun r _ => r = val) (fun _ t => va_P D vwCl ws' t.heap) A
def QV (D : va_G) (ws' : va_W) (A : Nat → Prop) : Array Value → State → Outcome → State → Prop := va_Qv (S := Unit) (fun _ => True) (fun _ t => va_P D vwCl ws' t.heap) A
/-- a contract's beginning, with the locals as they come -/
theorem mk_met {l : Launch} {y : MethodName} {ws ws' : List Cond} {rm : Room} {av : List Value} {Bp : State → Prop} {Qc : Array Value → State → Outcome → State → Prop} {mc ms : Nat} {free : Addr → Prop} (cc : ByteArray) (maxL : Nat) (ret : Option FieldType)
    (hy : plainName y.cls = true) (hw : ws = Cond.code y cc maxL ret :: ws') (hlen : (lg_sl av).length ≤ maxL)
    (body : ∀ (p : Program) (e : Env) (s : State) (m : MethodId) (args : Array Value) (below : List Frame) (meth : Method) (c : Code) (ls : Array Slot), p.tables.exec = Jvm.exec → c.code = cc → meth.sig.returnType = ret → meth.locks = false → c.maxLocals = maxL → s.vm.findClass y.cls = some m.cls → (∀ w ∈ ws, w.before args s = true) → Bp s → lv_has ls maxL (lv_args 0 av) → W p l e rm s m args below meth c s.heap [] 0 0 (MQ below Qc args s mc ms free) (F0 m 0 ls [])) :
    Met l y ws rm (va_Pc av Bp) Qc mc ms free := by
  refine Met.ofW (cc := cc) (maxL := maxL) (ret := ret) hy hw ?_
  intro p e s m args below meth c s₁ B hml hv
  obtain ⟨rfl, hB⟩ := hv
  have hl := lv_entry av (n := maxL) hlen
  rw [lg_entry_eq]
  exact body p e s m _ below meth c _ B.exec B.bytes B.returns B.notSynchronized hml (findClass_of_methodNamed B.named) (atoms_spec (ws := ws) B.pre) hB hl
section BASE
variable {p : Program} {l : Launch} {e : Env} {R : Room} {s : State} {m : MethodId} {args : Array Value} {below : List Frame} {meth : Method} {c : Code} {H : Heap} {locs : List Loc} {cells slots : Nat} {Q : State → Prop}
variable {D : va_G} {tys : List (ClassId × FieldType)} {wsw wsw' : va_W} {A : Nat → Prop} {H0 : Heap}
variable {y : MethodName} {bytes cc : ByteArray} {maxL nL n index pc : Nat} {ret : Option FieldType} {ws : List Cond} {rm : Room} {Ts : List Cond} {own C : String} {b : Addr} {As rest st : List Value} {ls : Array Slot}
/-- ends of a method that reads -/
theorem re_i {v val : Int32} (hx : p.tables.exec = Jvm.exec) (hb : c.code = cc) (hr : meth.sig.returnType = some .int) (hlocks : meth.locks = false) (hdg : decode cc pc = .ok (.ireturn, 1)) (hv : some v = some val) : W p l e R s m args below meth c s.heap [] 0 0 (MQ below (SI val) args s 0 0 (fun _ => False)) (F0 m pc ls [.int v]) :=
  W.iret hx hb hr (fun t ht _ => ⟨v, rfl, Option.some.inj hv, ht⟩) (fun q h => absurd h List.not_mem_nil) hdg hlocks
theorem re_z {v val : Int32} (hx : p.tables.exec = Jvm.exec) (hb : c.code = cc) (hr : meth.sig.returnType = some .boolean) (hlocks : meth.locks = false) (hn : narrow .boolean (.int v) = .int v) (hdg : decode cc pc = .ok (.ireturn, 1)) (hv : some v = some val) : W p l e R s m args below meth c s.heap [] 0 0 (MQ below (SI val) args s 0 0 (fun _ => False)) (F0 m pc ls [.int v]) :=
  W.zret hx hb hr hn (fun t ht _ => ⟨v, rfl, Option.some.inj hv, ht⟩) (fun q h => absurd h List.not_mem_nil) hdg hlocks
theorem re_l {v val : Int64} (hx : p.tables.exec = Jvm.exec) (hb : c.code = cc) (hr : meth.sig.returnType = some .long) (hlocks : meth.locks = false) (hdg : decode cc pc = .ok (.lreturn, 1)) (hv : some v = some val) : W p l e R s m args below meth c s.heap [] 0 0 (MQ below (SL val) args s 0 0 (fun _ => False)) (F0 m pc ls [.long v]) :=
  W.lret hx hb hr (fun t ht _ => ⟨v, rfl, Option.some.inj hv, ht⟩) (fun q h => absurd h List.not_mem_nil) hdg hlocks
/-- ends of a method that writes -/
theorem rm_i {v : Int32} (hx : p.tables.exec = Jvm.exec) (hb : c.code = cc) (hr : meth.sig.returnType = some .int) (hlocks : meth.locks = false) (hP : va_P D vwCl wsw H) (hS : va_S A s.heap H locs) (hdg : decode cc pc = .ok (.ireturn, 1)) : W p l e R s m args below meth c H locs 0 0 (MQ below (QI D wsw A v) args s 0 0 A) (F0 m pc ls [.int v]) :=
  W.iret hx hb hr (fun t ht _ => ⟨⟨v, (), rfl, rfl, by show va_P D vwCl wsw t.heap; rw [ht]; exact hP⟩, hS.F ht⟩) hS.2.2 hdg hlocks
theorem rm_z {v : Int32} (hx : p.tables.exec = Jvm.exec) (hb : c.code = cc) (hr : meth.sig.returnType = some .boolean) (hlocks : meth.locks = false) (hn : narrow .boolean (.int v) = .int v) (hP : va_P D vwCl wsw H) (hS : va_S A s.heap H locs) (hdg : decode cc pc = .ok (.ireturn, 1)) : W p l e R s m args below meth c H locs 0 0 (MQ below (QI D wsw A v) args s 0 0 A) (F0 m pc ls [.int v]) :=
  W.zret hx hb hr hn (fun t ht _ => ⟨⟨v, (), rfl, rfl, by show va_P D vwCl wsw t.heap; rw [ht]; exact hP⟩, hS.F ht⟩) hS.2.2 hdg hlocks
theorem rm_v (hx : p.tables.exec = Jvm.exec) (hb : c.code = cc) (hr : meth.sig.returnType = none) (hlocks : meth.locks = false) (hP : va_P D vwCl wsw H) (hS : va_S A s.heap H locs) (hdg : decode cc pc = .ok (.return_, 1)) : W p l e R s m args below meth c H locs 0 0 (MQ below (QV D wsw A) args s 0 0 A) (F0 m pc ls []) :=
  W.vret hx hb hr (fun t ht _ => ⟨⟨(), rfl, trivial, by show va_P D vwCl wsw t.heap; rw [ht]; exact hP⟩, hS.F ht⟩) hS.2.2 hdg hlocks
/-- a call of a method that reads -/
theorem rcV {val : Int32} (q0 ci : Nat) (S : CallFix p m c cc nL s args Ts own) (hM : Met l y ws rm (PR D tys wsw (.ref b :: As)) (SI val) 0 0 (fun _ => False)) (cw : CallW R s args own C index y bytes maxL ret ws rm 0 0 n) (hK : va_K D vwCl tys s) (hP : va_P D vwCl wsw H) {fs : List Value} {T : u_T} {N : Nat} (hc : vwCl[ci]? = some (C, T, N)) (he : wsw[q0]? = some (b, .inr (ci, fs)))
    (hn : As.length = n) (hsize : ls.size = nL) (hstack : st = As.reverse ++ .ref b :: rest) (hW : (rest.map fun v => v.category).sum ≤ 8) (hdg : decode cc pc = .ok (.invokevirtual index, 3)) (hf : cells + 0 ≤ R.cells ∧ slots + 0 ≤ R.slots)
    (kk : W p l e R s m args below meth c H locs cells slots Q (F0 m (pc + 3) ls (.int val :: rest))) : W p l e R s m args below meth c H locs cells slots Q (F0 m pc ls st) := by
  subst hstack
  exact vp_callSi (W.runV (As := As) (rest := rest) S hM cw ⟨PR_fb, va_recv hK hP hc he, fun U hU hW => ⟨rfl, by rw [hU]; exact hP, va_K.moved hW.alike hK⟩⟩ rfl hn hsize rfl (lv_room hW) hdg hf) (fun r hr => by rw [hr]; exact kk)
theorem rcVl {val : Int64} (q0 ci : Nat) (S : CallFix p m c cc nL s args Ts own) (hM : Met l y ws rm (PR D tys wsw (.ref b :: As)) (SL val) 0 0 (fun _ => False)) (cw : CallW R s args own C index y bytes maxL ret ws rm 0 0 n) (hK : va_K D vwCl tys s) (hP : va_P D vwCl wsw H) {fs : List Value} {T : u_T} {N : Nat} (hc : vwCl[ci]? = some (C, T, N)) (he : wsw[q0]? = some (b, .inr (ci, fs)))
    (hn : As.length = n) (hsize : ls.size = nL) (hstack : st = As.reverse ++ .ref b :: rest) (hW : (rest.map fun v => v.category).sum ≤ 8) (hdg : decode cc pc = .ok (.invokevirtual index, 3)) (hf : cells + 0 ≤ R.cells ∧ slots + 0 ≤ R.slots)
    (kk : W p l e R s m args below meth c H locs cells slots Q (F0 m (pc + 3) ls (.long val :: rest))) : W p l e R s m args below meth c H locs cells slots Q (F0 m pc ls st) := by
  subst hstack
  exact vp_callSl (W.runV (As := As) (rest := rest) S hM cw ⟨PR_fb, va_recv hK hP hc he, fun U hU hW => ⟨rfl, by rw [hU]; exact hP, va_K.moved hW.alike hK⟩⟩ rfl hn hsize rfl (lv_room hW) hdg hf) (fun r hr => by rw [hr]; exact kk)
/-- a call of a static method over numbers -/
theorem rcS {val : Int32} (S : CallFix p m c cc nL s args Ts own) (hM : Met l y ws rm (PS As) (SI val) 0 0 (fun _ => False)) (cw : CallB R s args own index y bytes maxL ret ws rm 0 0 n ∧ (Cond.static y).before args s = true)
    (hn : As.length = n) (hsize : ls.size = nL) (hstack : st = As.reverse ++ rest) (hW : (rest.map fun v => v.category).sum ≤ 8) (hdg : decode cc pc = .ok (.invokestatic index, 3)) (hf : cells + 0 ≤ R.cells ∧ slots + 0 ≤ R.slots)
    (kk : W p l e R s m args below meth c H locs cells slots Q (F0 m (pc + 3) ls (.int val :: rest))) : W p l e R s m args below meth c H locs cells slots Q (F0 m pc ls st) := by
  subst hstack
  exact vp_callSi (W.runS (As := As) (rest := rest) S hM cw ⟨PS_fb, fun U _ _ => ⟨rfl, trivial⟩⟩ rfl hn hsize rfl (lv_room hW) hdg hf) (fun r hr => by rw [hr]; exact kk)
/-- calls of methods that write -/
theorem mcVi {val : Int32} (q0 ci : Nat) (S : CallFix p m c cc nL s args Ts own) (hM : Met l y ws rm (PR D tys wsw (.ref b :: As)) (QI D wsw' A val) 0 0 A) (cw : CallW R s args own C index y bytes maxL ret ws rm 0 0 n) (hK : va_K D vwCl tys s) (hP : va_P D vwCl wsw H) (hS : va_S A H0 H locs) {fs : List Value} {T : u_T} {N : Nat} (hc : vwCl[ci]? = some (C, T, N)) (he : wsw[q0]? = some (b, .inr (ci, fs)))
    (hn : As.length = n) (hsize : ls.size = nL) (hstack : st = As.reverse ++ .ref b :: rest) (hW : (rest.map fun v => v.category).sum ≤ 8) (hdg : decode cc pc = .ok (.invokevirtual index, 3)) (hf : cells + 0 ≤ R.cells ∧ slots + 0 ≤ R.slots)
    (kk : ∀ (H1 : Heap) (locs1 : List Loc), va_P D vwCl wsw' H1 → va_S A H0 H1 locs1 → W p l e R s m args below meth c H1 locs1 cells slots Q (F0 m (pc + 3) ls (.int val :: rest))) : W p l e R s m args below meth c H locs cells slots Q (F0 m pc ls st) := by
  subst hstack
  exact va_calli (va_runV (As := As) (rest := rest) S hM cw ⟨PR_fb, va_recv hK hP hc he, fun U hU hW => ⟨rfl, by rw [hU]; exact hP, va_K.moved hW.alike hK⟩⟩ rfl hn hsize rfl (lv_room hW) hdg hf) hS (fun q _ h => h) (fun q h => h) (fun r u t H1 locs1 ht _ hr hB _ _ hS1 => by rw [hr]; exact kk H1 locs1 (by rw [← ht]; exact hB) hS1)
theorem mcVv (q0 ci : Nat) (S : CallFix p m c cc nL s args Ts own) (hM : Met l y ws rm (PR D tys wsw (.ref b :: As)) (QV D wsw' A) 0 0 A) (cw : CallW R s args own C index y bytes maxL ret ws rm 0 0 n) (hK : va_K D vwCl tys s) (hP : va_P D vwCl wsw H) (hS : va_S A H0 H locs) {fs : List Value} {T : u_T} {N : Nat} (hc : vwCl[ci]? = some (C, T, N)) (he : wsw[q0]? = some (b, .inr (ci, fs)))
    (hn : As.length = n) (hsize : ls.size = nL) (hstack : st = As.reverse ++ .ref b :: rest) (hW : (rest.map fun v => v.category).sum ≤ 8) (hdg : decode cc pc = .ok (.invokevirtual index, 3)) (hf : cells + 0 ≤ R.cells ∧ slots + 0 ≤ R.slots)
    (kk : ∀ (H1 : Heap) (locs1 : List Loc), va_P D vwCl wsw' H1 → va_S A H0 H1 locs1 → W p l e R s m args below meth c H1 locs1 cells slots Q (F0 m (pc + 3) ls rest)) : W p l e R s m args below meth c H locs cells slots Q (F0 m pc ls st) := by
  subst hstack
  exact va_callv (va_runV (As := As) (rest := rest) S hM cw ⟨PR_fb, va_recv hK hP hc he, fun U hU hW => ⟨rfl, by rw [hU]; exact hP, va_K.moved hW.alike hK⟩⟩ rfl hn hsize rfl (lv_room hW) hdg hf) hS (fun q _ h => h) (fun q h => h) (fun u t H1 locs1 ht _ _ hB _ _ hS1 => kk H1 locs1 (by rw [← ht]; exact hB) hS1)
end BASE
theorem ne_ti {x k : Int32} {z : Int} (h : ¬ x = k) (hk : k.toInt = z) : ¬ x.toInt = z := fun e => h (Int32.toInt_inj.mp (e.trans hk.symm))
/-- the cells of the class -/
def wC (cI cB cZ : ClassId) (ad : Nat → Nat) (cBad cFul cCnt cOpc cStp cTsz cRcn cPlc cFlt cVil cLsz : Int32) (cRts cLns cOpn cGps cTrl cWgt cRch cByt cWds cFst cSnd cSgn : Nat → Int32) : va_W := [
  (ad 0, .inr (7, [.ref (ad 1), .ref (ad 6), .ref (ad 9), .ref (ad 11), .ref (ad 13), .ref (ad 17), .ref (ad 19), .int cBad, .int cFul])),
  (ad 1, .inr (1, [.ref (ad 2), .ref (ad 3), .ref (ad 4), .ref (ad 5), .int cCnt, .int cOpc])),
  (ad 2, .inl (cI, 60, .inl cRts)),
  (ad 3, .inl (cI, 60, .inl cLns)),
  (ad 4, .inl (cZ, 60, .inl cOpn)),
  (ad 5, .inl (cI, 3600, .inl cGps)),
  (ad 6, .inr (6, [.ref (ad 1), .ref (ad 7), .int cStp, .ref (ad 8)])),
  (ad 7, .inl (cI, 60, .inl cTrl)),
  (ad 8, .inl (cI, 60, .inl cWgt)),
  (ad 9, .inr (0, [.ref (ad 1), .ref (ad 10)])),
  (ad 10, .inl (cI, 60, .inl cRch)),
  (ad 11, .inr (5, [.ref (ad 12), .int cTsz])),
  (ad 12, .inl (cB, 120, .inl cByt)),
  (ad 13, .inr (3, [.ref (ad 14), .ref (ad 15), .ref (ad 16), .int cRcn, .ref (ad 11), .int cPlc, .int cFlt, .int cVil])),
  (ad 14, .inl (cI, 30, .inl cWds)),
  (ad 15, .inl (cI, 30, .inl cFst)),
  (ad 16, .inl (cI, 30, .inl cSnd)),
  (ad 17, .inr (2, [.ref (ad 18), .int cLsz])),
  (ad 18, .inl (cB, 400, .inl cSgn)),
  (ad 19, .inr (4, [.ref (ad 1), .ref (ad 6), .ref (ad 9), .ref (ad 17)]))]

theorem wC_D {A : Nat → Prop} {ad : Nat → Nat} (h : AD A ad 20) {cI cB cZ : ClassId} {cBad cFul cCnt cOpc cStp cTsz cRcn cPlc cFlt cVil cLsz : Int32} {cRts cLns cOpn cGps cTrl cWgt cRch cByt cWds cFst cSnd cSgn : Nat → Int32} : va_D A (wC cI cB cZ ad cBad cFul cCnt cOpc cStp cTsz cRcn cPlc cFlt cVil cLsz cRts cLns cOpn cGps cTrl cWgt cRch cByt cWds cFst cSnd cSgn) := AD_D h rfl
/-- the cells of the reference -/
def wM (cI cB cZ : ClassId) (bd : Nat → Nat) (mVil mBad mFul mLen mSig mWay mLef mSpo mBeg mTok mVal mWor mNum mThe : Int32) (mRts mLns mOpn mTxt mAns mWys mSiz mNbs : Nat → Int32) : va_W := [
  (bd 0, .inr (8, [.int mVil, .ref (bd 1), .ref (bd 2), .ref (bd 3), .int mBad, .int mFul, .int mLen, .ref (bd 4), .int mSig, .ref (bd 5), .int mWay, .ref (bd 6), .ref (bd 7), .int mLef, .int mSpo, .int mBeg, .int mTok, .int mVal, .int mWor, .int mNum, .ref (bd 8), .int mThe])),
  (bd 1, .inl (cI, 60, .inl mRts)),
  (bd 2, .inl (cI, 60, .inl mLns)),
  (bd 3, .inl (cZ, 60, .inl mOpn)),
  (bd 4, .inl (cI, 120, .inl mTxt)),
  (bd 5, .inl (cI, 400, .inl mAns)),
  (bd 6, .inl (cI, 60, .inl mWys)),
  (bd 7, .inl (cI, 60, .inl mSiz)),
  (bd 8, .inl (cI, 2, .inl mNbs))]
theorem wM_D {A : Nat → Prop} {bd : Nat → Nat} (h : AD A bd 9) {cI cB cZ : ClassId} {mVil mBad mFul mLen mSig mWay mLef mSpo mBeg mTok mVal mWor mNum mThe : Int32} {mRts mLns mOpn mTxt mAns mWys mSiz mNbs : Nat → Int32} : va_D A (wM cI cB cZ bd mVil mBad mFul mLen mSig mWay mLef mSpo mBeg mTok mVal mWor mNum mThe mRts mLns mOpn mTxt mAns mWys mSiz mNbs) := AD_D h rfl
end
section
-- ===== PART A: goes FIRST, ahead of the names: the tables' words, and 'selects' of the private methods out of them =====
/-- a private method of a class that the tables say can be made, by its rows of tables_1 -/
def lw_okq (q : MethodName × Nat) : Prop := (q.1.cls ≠ "java/lang/invoke/MethodHandle" ∧ q.1.cls ≠ "java/lang/invoke/VarHandle") ∧ Cond.instantiable q.1.cls q.2 ∈ tables_1 ∧ Cond.privateMethod q.1 ∈ tables_1 ∧ Cond.instanceMethod q.1 ∈ tables_1
theorem lw_p0 : lw_okq (⟨"RoadDepots", "refuseBad", "()I"⟩, 9) := ⟨⟨by decide +kernel, by decide +kernel⟩, List.mem_of_getElem? (i := 17) (by decide +kernel), List.mem_of_getElem? (i := 226) (by decide +kernel), List.mem_of_getElem? (i := 227) (by decide +kernel)⟩
theorem lw_p1 : lw_okq (⟨"RoadDepots", "refuseFull", "()I"⟩, 9) := ⟨⟨by decide +kernel, by decide +kernel⟩, List.mem_of_getElem? (i := 17) (by decide +kernel), List.mem_of_getElem? (i := 230) (by decide +kernel), List.mem_of_getElem? (i := 231) (by decide +kernel)⟩
theorem lw_p2 : lw_okq (⟨"RoadDepots$Land", "measure", "(I)V"⟩, 6) := ⟨⟨by decide +kernel, by decide +kernel⟩, List.mem_of_getElem? (i := 25) (by decide +kernel), List.mem_of_getElem? (i := 239) (by decide +kernel), List.mem_of_getElem? (i := 240) (by decide +kernel)⟩
theorem lw_p3 : lw_okq (⟨"RoadDepots$Land", "countRoads", "(I)I"⟩, 6) := ⟨⟨by decide +kernel, by decide +kernel⟩, List.mem_of_getElem? (i := 25) (by decide +kernel), List.mem_of_getElem? (i := 298) (by decide +kernel), List.mem_of_getElem? (i := 299) (by decide +kernel)⟩
theorem lw_p4 : lw_okq (⟨"RoadDepots", "refuseBadPlace", "()I"⟩, 9) := ⟨⟨by decide +kernel, by decide +kernel⟩, List.mem_of_getElem? (i := 17) (by decide +kernel), List.mem_of_getElem? (i := 311) (by decide +kernel), List.mem_of_getElem? (i := 312) (by decide +kernel)⟩
theorem lw_p5 : lw_okq (⟨"RoadDepots$Ways", "weigh", "()V"⟩, 4) := ⟨⟨by decide +kernel, by decide +kernel⟩, List.mem_of_getElem? (i := 66) (by decide +kernel), List.mem_of_getElem? (i := 336) (by decide +kernel), List.mem_of_getElem? (i := 337) (by decide +kernel)⟩
theorem lw_p6 : lw_okq (⟨"RoadDepots$Ways", "burden", "(II)I"⟩, 4) := ⟨⟨by decide +kernel, by decide +kernel⟩, List.mem_of_getElem? (i := 66) (by decide +kernel), List.mem_of_getElem? (i := 340) (by decide +kernel), List.mem_of_getElem? (i := 341) (by decide +kernel)⟩
theorem lw_p7 : lw_okq (⟨"RoadDepots$Ways", "farthest", "(I)I"⟩, 4) := ⟨⟨by decide +kernel, by decide +kernel⟩, List.mem_of_getElem? (i := 66) (by decide +kernel), List.mem_of_getElem? (i := 344) (by decide +kernel), List.mem_of_getElem? (i := 345) (by decide +kernel)⟩
theorem lw_p8 : lw_okq (⟨"RoadDepots$Ways", "distanceOfAll", "(I)I"⟩, 4) := ⟨⟨by decide +kernel, by decide +kernel⟩, List.mem_of_getElem? (i := 66) (by decide +kernel), List.mem_of_getElem? (i := 351) (by decide +kernel), List.mem_of_getElem? (i := 352) (by decide +kernel)⟩
theorem lw_p9 : lw_okq (⟨"RoadDepots$Ways", "greatestRest", "(I)I"⟩, 4) := ⟨⟨by decide +kernel, by decide +kernel⟩, List.mem_of_getElem? (i := 66) (by decide +kernel), List.mem_of_getElem? (i := 355) (by decide +kernel), List.mem_of_getElem? (i := 356) (by decide +kernel)⟩
theorem lw_p10 : lw_okq (⟨"RoadDepots", "whichOrFar", "(III)I"⟩, 9) := ⟨⟨by decide +kernel, by decide +kernel⟩, List.mem_of_getElem? (i := 17) (by decide +kernel), List.mem_of_getElem? (i := 369) (by decide +kernel), List.mem_of_getElem? (i := 370) (by decide +kernel)⟩
theorem lw_p11 : lw_okq (⟨"RoadDepots$Depots", "countBefore", "(II)I"⟩, 2) := ⟨⟨by decide +kernel, by decide +kernel⟩, List.mem_of_getElem? (i := 89) (by decide +kernel), List.mem_of_getElem? (i := 381) (by decide +kernel), List.mem_of_getElem? (i := 382) (by decide +kernel)⟩
theorem lw_p12 : lw_okq (⟨"RoadDepots$Depots", "findReaches", "()V"⟩, 2) := ⟨⟨by decide +kernel, by decide +kernel⟩, List.mem_of_getElem? (i := 89) (by decide +kernel), List.mem_of_getElem? (i := 409) (by decide +kernel), List.mem_of_getElem? (i := 410) (by decide +kernel)⟩
theorem lw_p13 : lw_okq (⟨"RoadDepots$Depots", "leftWith", "(I)I"⟩, 2) := ⟨⟨by decide +kernel, by decide +kernel⟩, List.mem_of_getElem? (i := 89) (by decide +kernel), List.mem_of_getElem? (i := 422) (by decide +kernel), List.mem_of_getElem? (i := 423) (by decide +kernel)⟩
theorem lw_p14 : lw_okq (⟨"RoadDepots$Reader", "readSentence", "()V"⟩, 8) := ⟨⟨by decide +kernel, by decide +kernel⟩, List.mem_of_getElem? (i := 118) (by decide +kernel), List.mem_of_getElem? (i := 470) (by decide +kernel), List.mem_of_getElem? (i := 471) (by decide +kernel)⟩
theorem lw_p15 : lw_okq (⟨"RoadDepots$Reader", "readWord", "()I"⟩, 8) := ⟨⟨by decide +kernel, by decide +kernel⟩, List.mem_of_getElem? (i := 118) (by decide +kernel), List.mem_of_getElem? (i := 474) (by decide +kernel), List.mem_of_getElem? (i := 475) (by decide +kernel)⟩
def lw_privs_1 : List (MethodName × Nat) := [(⟨"RoadDepots", "refuseBad", "()I"⟩, 9), (⟨"RoadDepots", "refuseFull", "()I"⟩, 9), (⟨"RoadDepots$Land", "measure", "(I)V"⟩, 6), (⟨"RoadDepots$Land", "countRoads", "(I)I"⟩, 6), (⟨"RoadDepots", "refuseBadPlace", "()I"⟩, 9), (⟨"RoadDepots$Ways", "weigh", "()V"⟩, 4), (⟨"RoadDepots$Ways", "burden", "(II)I"⟩, 4), (⟨"RoadDepots$Ways", "farthest", "(I)I"⟩, 4), (⟨"RoadDepots$Ways", "distanceOfAll", "(I)I"⟩, 4), (⟨"RoadDepots$Ways", "greatestRest", "(I)I"⟩, 4), (⟨"RoadDepots", "whichOrFar", "(III)I"⟩, 9), (⟨"RoadDepots$Depots", "countBefore", "(II)I"⟩, 2), (⟨"RoadDepots$Depots", "findReaches", "()V"⟩, 2), (⟨"RoadDepots$Depots", "leftWith", "(I)I"⟩, 2), (⟨"RoadDepots$Reader", "readSentence", "()V"⟩, 8), (⟨"RoadDepots$Reader", "readWord", "()I"⟩, 8)]
theorem lw_r1 : ∀ q ∈ lw_privs_1, lw_okq q := List.forall_mem_cons.mpr ⟨lw_p0, List.forall_mem_cons.mpr ⟨lw_p1, List.forall_mem_cons.mpr ⟨lw_p2, List.forall_mem_cons.mpr ⟨lw_p3, List.forall_mem_cons.mpr ⟨lw_p4, List.forall_mem_cons.mpr ⟨lw_p5, List.forall_mem_cons.mpr ⟨lw_p6, List.forall_mem_cons.mpr ⟨lw_p7, List.forall_mem_cons.mpr ⟨lw_p8, List.forall_mem_cons.mpr ⟨lw_p9, List.forall_mem_cons.mpr ⟨lw_p10, List.forall_mem_cons.mpr ⟨lw_p11, List.forall_mem_cons.mpr ⟨lw_p12, List.forall_mem_cons.mpr ⟨lw_p13, List.forall_mem_cons.mpr ⟨lw_p14, List.forall_mem_cons.mpr ⟨lw_p15, fun _ h => absurd h List.not_mem_nil⟩⟩⟩⟩⟩⟩⟩⟩⟩⟩⟩⟩⟩⟩⟩⟩
theorem lw_p16 : lw_okq (⟨"RoadDepots$Reader", "skipBlanks", "()V"⟩, 8) := ⟨⟨by decide +kernel, by decide +kernel⟩, List.mem_of_getElem? (i := 118) (by decide +kernel), List.mem_of_getElem? (i := 478) (by decide +kernel), List.mem_of_getElem? (i := 479) (by decide +kernel)⟩
theorem lw_p17 : lw_okq (⟨"RoadDepots$Reader", "readNumber", "(I)I"⟩, 8) := ⟨⟨by decide +kernel, by decide +kernel⟩, List.mem_of_getElem? (i := 118) (by decide +kernel), List.mem_of_getElem? (i := 564) (by decide +kernel), List.mem_of_getElem? (i := 565) (by decide +kernel)⟩
theorem lw_p18 : lw_okq (⟨"RoadDepots$Reader", "readEnd", "()V"⟩, 8) := ⟨⟨by decide +kernel, by decide +kernel⟩, List.mem_of_getElem? (i := 118) (by decide +kernel), List.mem_of_getElem? (i := 581) (by decide +kernel), List.mem_of_getElem? (i := 582) (by decide +kernel)⟩
theorem lw_p19 : lw_okq (⟨"RoadDepots$Reader", "keep", "(III)V"⟩, 8) := ⟨⟨by decide +kernel, by decide +kernel⟩, List.mem_of_getElem? (i := 118) (by decide +kernel), List.mem_of_getElem? (i := 585) (by decide +kernel), List.mem_of_getElem? (i := 586) (by decide +kernel)⟩
theorem lw_p20 : lw_okq (⟨"RoadDepots$Teller", "tellNearest", "(I)V"⟩, 4) := ⟨⟨by decide +kernel, by decide +kernel⟩, List.mem_of_getElem? (i := 168) (by decide +kernel), List.mem_of_getElem? (i := 609) (by decide +kernel), List.mem_of_getElem? (i := 610) (by decide +kernel)⟩
theorem lw_p21 : lw_okq (⟨"RoadDepots$Teller", "tellWay", "(II)V"⟩, 4) := ⟨⟨by decide +kernel, by decide +kernel⟩, List.mem_of_getElem? (i := 168) (by decide +kernel), List.mem_of_getElem? (i := 616) (by decide +kernel), List.mem_of_getElem? (i := 617) (by decide +kernel)⟩
theorem lw_p22 : lw_okq (⟨"RoadDepots$Teller", "tellAll", "()V"⟩, 4) := ⟨⟨by decide +kernel, by decide +kernel⟩, List.mem_of_getElem? (i := 168) (by decide +kernel), List.mem_of_getElem? (i := 622) (by decide +kernel), List.mem_of_getElem? (i := 623) (by decide +kernel)⟩
theorem lw_p23 : lw_okq (⟨"RoadDepots", "tally", "(I)I"⟩, 9) := ⟨⟨by decide +kernel, by decide +kernel⟩, List.mem_of_getElem? (i := 17) (by decide +kernel), List.mem_of_getElem? (i := 635) (by decide +kernel), List.mem_of_getElem? (i := 636) (by decide +kernel)⟩
theorem lw_p24 : lw_okq (⟨"RoadDepotsModel", "isVillage", "(I)Z"⟩, 22) := ⟨⟨by decide +kernel, by decide +kernel⟩, List.mem_of_getElem? (i := 645) (by decide +kernel), List.mem_of_getElem? (i := 721) (by decide +kernel), List.mem_of_getElem? (i := 722) (by decide +kernel)⟩
theorem lw_p25 : lw_okq (⟨"RoadDepotsModel", "refuse", "()I"⟩, 22) := ⟨⟨by decide +kernel, by decide +kernel⟩, List.mem_of_getElem? (i := 645) (by decide +kernel), List.mem_of_getElem? (i := 729) (by decide +kernel), List.mem_of_getElem? (i := 730) (by decide +kernel)⟩
theorem lw_p26 : lw_okq (⟨"RoadDepotsModel", "refuseFull", "()I"⟩, 22) := ⟨⟨by decide +kernel, by decide +kernel⟩, List.mem_of_getElem? (i := 645) (by decide +kernel), List.mem_of_getElem? (i := 733) (by decide +kernel), List.mem_of_getElem? (i := 734) (by decide +kernel)⟩
theorem lw_p27 : lw_okq (⟨"RoadDepotsModel", "come", "(II)I"⟩, 22) := ⟨⟨by decide +kernel, by decide +kernel⟩, List.mem_of_getElem? (i := 645) (by decide +kernel), List.mem_of_getElem? (i := 737) (by decide +kernel), List.mem_of_getElem? (i := 738) (by decide +kernel)⟩
theorem lw_p28 : lw_okq (⟨"RoadDepotsModel", "becomes", "(IZ)I"⟩, 22) := ⟨⟨by decide +kernel, by decide +kernel⟩, List.mem_of_getElem? (i := 645) (by decide +kernel), List.mem_of_getElem? (i := 745) (by decide +kernel), List.mem_of_getElem? (i := 746) (by decide +kernel)⟩
theorem lw_p29 : lw_okq (⟨"RoadDepotsModel", "lengthen", "(II)I"⟩, 22) := ⟨⟨by decide +kernel, by decide +kernel⟩, List.mem_of_getElem? (i := 645) (by decide +kernel), List.mem_of_getElem? (i := 753) (by decide +kernel), List.mem_of_getElem? (i := 754) (by decide +kernel)⟩
theorem lw_p30 : lw_okq (⟨"RoadDepotsModel", "partOf", "(II)I"⟩, 22) := ⟨⟨by decide +kernel, by decide +kernel⟩, List.mem_of_getElem? (i := 645) (by decide +kernel), List.mem_of_getElem? (i := 780) (by decide +kernel), List.mem_of_getElem? (i := 781) (by decide +kernel)⟩
theorem lw_p31 : lw_okq (⟨"RoadDepotsModel", "farFrom", "(II)I"⟩, 22) := ⟨⟨by decide +kernel, by decide +kernel⟩, List.mem_of_getElem? (i := 645) (by decide +kernel), List.mem_of_getElem? (i := 788) (by decide +kernel), List.mem_of_getElem? (i := 789) (by decide +kernel)⟩
def lw_privs_2 : List (MethodName × Nat) := [(⟨"RoadDepots$Reader", "skipBlanks", "()V"⟩, 8), (⟨"RoadDepots$Reader", "readNumber", "(I)I"⟩, 8), (⟨"RoadDepots$Reader", "readEnd", "()V"⟩, 8), (⟨"RoadDepots$Reader", "keep", "(III)V"⟩, 8), (⟨"RoadDepots$Teller", "tellNearest", "(I)V"⟩, 4), (⟨"RoadDepots$Teller", "tellWay", "(II)V"⟩, 4), (⟨"RoadDepots$Teller", "tellAll", "()V"⟩, 4), (⟨"RoadDepots", "tally", "(I)I"⟩, 9), (⟨"RoadDepotsModel", "isVillage", "(I)Z"⟩, 22), (⟨"RoadDepotsModel", "refuse", "()I"⟩, 22), (⟨"RoadDepotsModel", "refuseFull", "()I"⟩, 22), (⟨"RoadDepotsModel", "come", "(II)I"⟩, 22), (⟨"RoadDepotsModel", "becomes", "(IZ)I"⟩, 22), (⟨"RoadDepotsModel", "lengthen", "(II)I"⟩, 22), (⟨"RoadDepotsModel", "partOf", "(II)I"⟩, 22), (⟨"RoadDepotsModel", "farFrom", "(II)I"⟩, 22)]
theorem lw_r2 : ∀ q ∈ lw_privs_2, lw_okq q := List.forall_mem_cons.mpr ⟨lw_p16, List.forall_mem_cons.mpr ⟨lw_p17, List.forall_mem_cons.mpr ⟨lw_p18, List.forall_mem_cons.mpr ⟨lw_p19, List.forall_mem_cons.mpr ⟨lw_p20, List.forall_mem_cons.mpr ⟨lw_p21, List.forall_mem_cons.mpr ⟨lw_p22, List.forall_mem_cons.mpr ⟨lw_p23, List.forall_mem_cons.mpr ⟨lw_p24, List.forall_mem_cons.mpr ⟨lw_p25, List.forall_mem_cons.mpr ⟨lw_p26, List.forall_mem_cons.mpr ⟨lw_p27, List.forall_mem_cons.mpr ⟨lw_p28, List.forall_mem_cons.mpr ⟨lw_p29, List.forall_mem_cons.mpr ⟨lw_p30, List.forall_mem_cons.mpr ⟨lw_p31, fun _ h => absurd h List.not_mem_nil⟩⟩⟩⟩⟩⟩⟩⟩⟩⟩⟩⟩⟩⟩⟩⟩
theorem lw_p32 : lw_okq (⟨"RoadDepotsModel", "findWay", "(II)V"⟩, 22) := ⟨⟨by decide +kernel, by decide +kernel⟩, List.mem_of_getElem? (i := 645) (by decide +kernel), List.mem_of_getElem? (i := 796) (by decide +kernel), List.mem_of_getElem? (i := 797) (by decide +kernel)⟩
theorem lw_p33 : lw_okq (⟨"RoadDepotsModel", "farthest", "(I)I"⟩, 22) := ⟨⟨by decide +kernel, by decide +kernel⟩, List.mem_of_getElem? (i := 645) (by decide +kernel), List.mem_of_getElem? (i := 805) (by decide +kernel), List.mem_of_getElem? (i := 806) (by decide +kernel)⟩
theorem lw_p34 : lw_okq (⟨"RoadDepotsModel", "sumFrom", "(I)I"⟩, 22) := ⟨⟨by decide +kernel, by decide +kernel⟩, List.mem_of_getElem? (i := 645) (by decide +kernel), List.mem_of_getElem? (i := 813) (by decide +kernel), List.mem_of_getElem? (i := 814) (by decide +kernel)⟩
theorem lw_p35 : lw_okq (⟨"RoadDepotsModel", "restOf", "(I)I"⟩, 22) := ⟨⟨by decide +kernel, by decide +kernel⟩, List.mem_of_getElem? (i := 645) (by decide +kernel), List.mem_of_getElem? (i := 817) (by decide +kernel), List.mem_of_getElem? (i := 818) (by decide +kernel)⟩
theorem lw_p36 : lw_okq (⟨"RoadDepotsModel", "nearestOf", "(I)I"⟩, 22) := ⟨⟨by decide +kernel, by decide +kernel⟩, List.mem_of_getElem? (i := 645) (by decide +kernel), List.mem_of_getElem? (i := 825) (by decide +kernel), List.mem_of_getElem? (i := 826) (by decide +kernel)⟩
theorem lw_p37 : lw_okq (⟨"RoadDepotsModel", "manyWithin", "(II)I"⟩, 22) := ⟨⟨by decide +kernel, by decide +kernel⟩, List.mem_of_getElem? (i := 645) (by decide +kernel), List.mem_of_getElem? (i := 838) (by decide +kernel), List.mem_of_getElem? (i := 839) (by decide +kernel)⟩
theorem lw_p38 : lw_okq (⟨"RoadDepotsModel", "sumOfOpen", "(I)I"⟩, 22) := ⟨⟨by decide +kernel, by decide +kernel⟩, List.mem_of_getElem? (i := 645) (by decide +kernel), List.mem_of_getElem? (i := 846) (by decide +kernel), List.mem_of_getElem? (i := 847) (by decide +kernel)⟩
theorem lw_p39 : lw_okq (⟨"RoadDepotsModel", "findLeft", "()I"⟩, 22) := ⟨⟨by decide +kernel, by decide +kernel⟩, List.mem_of_getElem? (i := 645) (by decide +kernel), List.mem_of_getElem? (i := 854) (by decide +kernel), List.mem_of_getElem? (i := 855) (by decide +kernel)⟩
theorem lw_p40 : lw_okq (⟨"RoadDepotsModel", "isMore", "()Z"⟩, 22) := ⟨⟨by decide +kernel, by decide +kernel⟩, List.mem_of_getElem? (i := 645) (by decide +kernel), List.mem_of_getElem? (i := 883) (by decide +kernel), List.mem_of_getElem? (i := 884) (by decide +kernel)⟩
theorem lw_p41 : lw_okq (⟨"RoadDepotsModel", "isSentence", "()Z"⟩, 22) := ⟨⟨by decide +kernel, by decide +kernel⟩, List.mem_of_getElem? (i := 645) (by decide +kernel), List.mem_of_getElem? (i := 887) (by decide +kernel), List.mem_of_getElem? (i := 888) (by decide +kernel)⟩
theorem lw_p42 : lw_okq (⟨"RoadDepotsModel", "next", "()V"⟩, 22) := ⟨⟨by decide +kernel, by decide +kernel⟩, List.mem_of_getElem? (i := 645) (by decide +kernel), List.mem_of_getElem? (i := 891) (by decide +kernel), List.mem_of_getElem? (i := 892) (by decide +kernel)⟩
theorem lw_p43 : lw_okq (⟨"RoadDepotsModel", "mayBe", "(II)Z"⟩, 22) := ⟨⟨by decide +kernel, by decide +kernel⟩, List.mem_of_getElem? (i := 645) (by decide +kernel), List.mem_of_getElem? (i := 908) (by decide +kernel), List.mem_of_getElem? (i := 909) (by decide +kernel)⟩
theorem lw_p44 : lw_okq (⟨"RoadDepotsModel", "putSign", "(I)V"⟩, 22) := ⟨⟨by decide +kernel, by decide +kernel⟩, List.mem_of_getElem? (i := 645) (by decide +kernel), List.mem_of_getElem? (i := 914) (by decide +kernel), List.mem_of_getElem? (i := 915) (by decide +kernel)⟩
theorem lw_p45 : lw_okq (⟨"RoadDepotsModel", "say", "()V"⟩, 22) := ⟨⟨by decide +kernel, by decide +kernel⟩, List.mem_of_getElem? (i := 645) (by decide +kernel), List.mem_of_getElem? (i := 918) (by decide +kernel), List.mem_of_getElem? (i := 919) (by decide +kernel)⟩
theorem lw_p46 : lw_okq (⟨"RoadDepotsModel", "putNumber", "(I)V"⟩, 22) := ⟨⟨by decide +kernel, by decide +kernel⟩, List.mem_of_getElem? (i := 645) (by decide +kernel), List.mem_of_getElem? (i := 922) (by decide +kernel), List.mem_of_getElem? (i := 923) (by decide +kernel)⟩
theorem lw_p47 : lw_okq (⟨"RoadDepotsModel", "sayNear", "()V"⟩, 22) := ⟨⟨by decide +kernel, by decide +kernel⟩, List.mem_of_getElem? (i := 645) (by decide +kernel), List.mem_of_getElem? (i := 927) (by decide +kernel), List.mem_of_getElem? (i := 928) (by decide +kernel)⟩
def lw_privs_3 : List (MethodName × Nat) := [(⟨"RoadDepotsModel", "findWay", "(II)V"⟩, 22), (⟨"RoadDepotsModel", "farthest", "(I)I"⟩, 22), (⟨"RoadDepotsModel", "sumFrom", "(I)I"⟩, 22), (⟨"RoadDepotsModel", "restOf", "(I)I"⟩, 22), (⟨"RoadDepotsModel", "nearestOf", "(I)I"⟩, 22), (⟨"RoadDepotsModel", "manyWithin", "(II)I"⟩, 22), (⟨"RoadDepotsModel", "sumOfOpen", "(I)I"⟩, 22), (⟨"RoadDepotsModel", "findLeft", "()I"⟩, 22), (⟨"RoadDepotsModel", "isMore", "()Z"⟩, 22), (⟨"RoadDepotsModel", "isSentence", "()Z"⟩, 22), (⟨"RoadDepotsModel", "next", "()V"⟩, 22), (⟨"RoadDepotsModel", "mayBe", "(II)Z"⟩, 22), (⟨"RoadDepotsModel", "putSign", "(I)V"⟩, 22), (⟨"RoadDepotsModel", "say", "()V"⟩, 22), (⟨"RoadDepotsModel", "putNumber", "(I)V"⟩, 22), (⟨"RoadDepotsModel", "sayNear", "()V"⟩, 22)]
theorem lw_r3 : ∀ q ∈ lw_privs_3, lw_okq q := List.forall_mem_cons.mpr ⟨lw_p32, List.forall_mem_cons.mpr ⟨lw_p33, List.forall_mem_cons.mpr ⟨lw_p34, List.forall_mem_cons.mpr ⟨lw_p35, List.forall_mem_cons.mpr ⟨lw_p36, List.forall_mem_cons.mpr ⟨lw_p37, List.forall_mem_cons.mpr ⟨lw_p38, List.forall_mem_cons.mpr ⟨lw_p39, List.forall_mem_cons.mpr ⟨lw_p40, List.forall_mem_cons.mpr ⟨lw_p41, List.forall_mem_cons.mpr ⟨lw_p42, List.forall_mem_cons.mpr ⟨lw_p43, List.forall_mem_cons.mpr ⟨lw_p44, List.forall_mem_cons.mpr ⟨lw_p45, List.forall_mem_cons.mpr ⟨lw_p46, List.forall_mem_cons.mpr ⟨lw_p47, fun _ h => absurd h List.not_mem_nil⟩⟩⟩⟩⟩⟩⟩⟩⟩⟩⟩⟩⟩⟩⟩⟩
theorem lw_p48 : lw_okq (⟨"RoadDepotsModel", "sayWay", "()V"⟩, 22) := ⟨⟨by decide +kernel, by decide +kernel⟩, List.mem_of_getElem? (i := 645) (by decide +kernel), List.mem_of_getElem? (i := 931) (by decide +kernel), List.mem_of_getElem? (i := 932) (by decide +kernel)⟩
theorem lw_p49 : lw_okq (⟨"RoadDepotsModel", "sayAll", "()V"⟩, 22) := ⟨⟨by decide +kernel, by decide +kernel⟩, List.mem_of_getElem? (i := 645) (by decide +kernel), List.mem_of_getElem? (i := 935) (by decide +kernel), List.mem_of_getElem? (i := 936) (by decide +kernel)⟩
theorem lw_p50 : lw_okq (⟨"RoadDepotsModel", "tell", "(I)I"⟩, 22) := ⟨⟨by decide +kernel, by decide +kernel⟩, List.mem_of_getElem? (i := 645) (by decide +kernel), List.mem_of_getElem? (i := 948) (by decide +kernel), List.mem_of_getElem? (i := 949) (by decide +kernel)⟩
theorem lw_p51 : lw_okq (⟨"RoadDepotsModel", "openMany", "()I"⟩, 22) := ⟨⟨by decide +kernel, by decide +kernel⟩, List.mem_of_getElem? (i := 645) (by decide +kernel), List.mem_of_getElem? (i := 952) (by decide +kernel), List.mem_of_getElem? (i := 953) (by decide +kernel)⟩
def lw_privs_4 : List (MethodName × Nat) := [(⟨"RoadDepotsModel", "sayWay", "()V"⟩, 22), (⟨"RoadDepotsModel", "sayAll", "()V"⟩, 22), (⟨"RoadDepotsModel", "tell", "(I)I"⟩, 22), (⟨"RoadDepotsModel", "openMany", "()I"⟩, 22)]
theorem lw_r4 : ∀ q ∈ lw_privs_4, lw_okq q := List.forall_mem_cons.mpr ⟨lw_p48, List.forall_mem_cons.mpr ⟨lw_p49, List.forall_mem_cons.mpr ⟨lw_p50, List.forall_mem_cons.mpr ⟨lw_p51, fun _ h => absurd h List.not_mem_nil⟩⟩⟩⟩
def lw_privs : List (MethodName × Nat) := lw_privs_1 ++ (lw_privs_2 ++ (lw_privs_3 ++ (lw_privs_4)))
def lw_tbl : List Cond := k2_sels lw_privs ++ tables_1
theorem lw_privs_ok : ∀ q ∈ lw_privs, lw_okq q := by
  show ∀ q ∈ lw_privs_1 ++ (lw_privs_2 ++ (lw_privs_3 ++ (lw_privs_4))), lw_okq q
  exact List.forall_mem_append.mpr ⟨lw_r1, List.forall_mem_append.mpr ⟨lw_r2, List.forall_mem_append.mpr ⟨lw_r3, lw_r4⟩⟩⟩
end
section
set_option maxRecDepth 20000 in
theorem ggL_law_X8_init : GoodIn wsL_law wsX8_init := goodIn_r _ [8, 9, 10, 11, 12, 13, 14, 15, 16, 17, 18, 19, 20, 21, 22, 23, 24, 25, 26, 27, 28, 29, 30, 31, 32, 33, 34, 35, 36, 37, 38, 39, 40, 41, 42, 43, 44, 45, 46, 47, 48, 49, 50, 51, 52, 53, 54, 55, 56, 57, 58, 59, 60, 61, 62, 63, 64, 65, 66, 67, 68, 69, 70, 71, 72, 73, 74, 75, 76, 77, 78, 79, 80, 81, 82, 83, 84, 85, 86, 87, 88, 89, 90, 91, 92, 93, 94, 95, 96, 97, 848, 849, 850, 851, 852, 853, 817, 818, 819, 820, 821, 822, 823, 824, 825, 854, 855, 856, 857, 858, 859, 860, 861, 862, 863, 864, 865, 866, 867, 868, 869, 870, 871, 872, 873, 874, 875] (by decide +kernel) (by decide +kernel)
set_option maxRecDepth 20000 in
theorem gL_law_X8_init : GoodIn wsL_law (wsX8_init) := ggL_law_X8_init
set_option maxRecDepth 20000 in
theorem ggL_law_X9_init : GoodIn wsL_law wsX9_init := goodIn_r _ [100, 101, 10, 11, 44, 102, 103, 47, 104, 105, 106, 107, 108, 109, 110, 826, 827, 828, 829, 830, 831, 832, 833, 834, 835, 836, 837, 838, 839, 840, 841, 842, 843, 844, 845, 846, 847] (by decide +kernel) (by decide +kernel)
set_option maxRecDepth 20000 in
theorem gL_law_X9_init : GoodIn wsL_law (wsX9_init) := ggL_law_X9_init
set_option maxRecDepth 20000 in
theorem ggL_law_X8_add : GoodIn wsL_law wsX8_add := goodIn_r _ [114, 15, 115, 116, 117, 118, 14, 119, 54, 120, 121, 2, 122, 123, 124, 125, 126, 127, 128, 129, 130, 131, 132, 133, 134, 135, 136, 45, 46, 48, 137, 138, 139, 140, 141, 49, 142, 143, 144, 145, 817, 818, 819, 820, 821, 822, 823, 824, 825, 848, 849, 850, 851, 852, 853] (by decide +kernel) (by decide +kernel)
set_option maxRecDepth 20000 in
theorem gL_law_X8_add : GoodIn wsL_law (wsV RL 13 RX8 yX8_add wsX8_add) := goodIn_app (goodIn_of _ (by decide +kernel)) ggL_law_X8_add
set_option maxRecDepth 20000 in
theorem ggL_law_X9_add : GoodIn wsL_law wsX9_add := goodIn_r _ [149, 150, 110, 151, 152, 153, 5, 154, 155, 156, 157, 158, 159, 160, 161, 162, 163, 164, 165, 166, 167, 168, 169, 170, 171, 102, 103, 104, 826, 827, 828, 829, 830, 831, 832, 833, 834, 835, 836, 837, 838, 839, 840, 841, 842, 843, 844, 845, 846, 847] (by decide +kernel) (by decide +kernel)
set_option maxRecDepth 20000 in
theorem gL_law_X9_add : GoodIn wsL_law (wsV RL 17 RX9 yX9_add wsX9_add) := goodIn_app (goodIn_of _ (by decide +kernel)) ggL_law_X9_add
set_option maxRecDepth 20000 in
theorem ggL_law_X8_depot : GoodIn wsL_law wsX8_depot := goodIn_r _ [175, 15, 116, 117, 118, 14, 119, 54, 176, 177, 2, 178, 123, 124, 125, 126, 127, 179, 180, 181, 182, 48, 55, 817, 818, 819, 820, 821, 822, 823, 824, 825, 848, 849, 850, 851, 852, 853] (by decide +kernel) (by decide +kernel)
set_option maxRecDepth 20000 in
theorem gL_law_X8_depot : GoodIn wsL_law (wsV RL 18 RX8 yX8_depot wsX8_depot) := goodIn_app (goodIn_of _ (by decide +kernel)) ggL_law_X8_depot
set_option maxRecDepth 20000 in
theorem ggL_law_X9_depot : GoodIn wsL_law wsX9_depot := goodIn_r _ [186, 151, 152, 153, 5, 154, 110, 155, 156, 157, 187, 188, 189, 190, 104, 158, 159, 160, 161, 162, 826, 827, 828, 829, 830, 831, 832, 833, 834, 835, 836, 837, 838, 839, 840, 841, 842, 843, 844, 845, 846, 847] (by decide +kernel) (by decide +kernel)
set_option maxRecDepth 20000 in
theorem gL_law_X9_depot : GoodIn wsL_law (wsV RL 21 RX9 yX9_depot wsX9_depot) := goodIn_app (goodIn_of _ (by decide +kernel)) ggL_law_X9_depot
set_option maxRecDepth 20000 in
theorem ggL_law_X8_road : GoodIn wsL_law wsX8_road := goodIn_r _ [194, 15, 116, 117, 118, 14, 119, 54, 120, 121, 2, 122, 123, 124, 125, 126, 127, 195, 196, 197, 198, 46, 138, 139, 140, 141, 45, 49, 137, 142, 143, 144, 145, 817, 818, 819, 820, 821, 822, 823, 824, 825, 848, 849, 850, 851, 852, 853] (by decide +kernel) (by decide +kernel)
set_option maxRecDepth 20000 in
theorem gL_law_X8_road : GoodIn wsL_law (wsV RL 22 RX8 yX8_road wsX8_road) := goodIn_app (goodIn_of _ (by decide +kernel)) ggL_law_X8_road
set_option maxRecDepth 20000 in
theorem ggL_law_X9_road : GoodIn wsL_law wsX9_road := goodIn_r _ [202, 150, 151, 152, 153, 5, 154, 110, 155, 156, 157, 203, 204, 205, 206, 103, 158, 159, 160, 161, 162, 826, 827, 828, 829, 830, 831, 832, 833, 834, 835, 836, 837, 838, 839, 840, 841, 842, 843, 844, 845, 846, 847] (by decide +kernel) (by decide +kernel)
set_option maxRecDepth 20000 in
theorem gL_law_X9_road : GoodIn wsL_law (wsV RL 25 RX9 yX9_road wsX9_road) := goodIn_app (goodIn_of _ (by decide +kernel)) ggL_law_X9_road
set_option maxRecDepth 20000 in
theorem ggL_law_X8_anew : GoodIn wsL_law wsX8_anew := goodIn_r _ [210, 15, 211, 51, 52, 14, 53, 54, 55, 45, 46, 48, 817, 818, 819, 820, 821, 822, 823, 824, 825, 848, 849, 850, 851, 852, 853] (by decide +kernel) (by decide +kernel)
set_option maxRecDepth 20000 in
theorem gL_law_X8_anew : GoodIn wsL_law (wsV RL 26 RX8 yX8_anew wsX8_anew) := goodIn_app (goodIn_of _ (by decide +kernel)) ggL_law_X8_anew
set_option maxRecDepth 20000 in
theorem ggL_law_X9_anew : GoodIn wsL_law wsX9_anew := goodIn_r _ [215, 110, 104, 826, 827, 828, 829, 830, 831, 832, 833, 834, 835, 836, 837, 838, 839, 840, 841, 842, 843, 844, 845, 846, 847] (by decide +kernel) (by decide +kernel)
set_option maxRecDepth 20000 in
theorem gL_law_X9_anew : GoodIn wsL_law (wsV RL 30 RX9 yX9_anew wsX9_anew) := goodIn_app (goodIn_of _ (by decide +kernel)) ggL_law_X9_anew
set_option maxRecDepth 20000 in
theorem ggL_law_X8_draw : GoodIn wsL_law wsX8_draw := goodIn_r _ [219, 220, 15, 176, 177, 2, 178, 123, 124, 125, 126, 127, 221, 222, 223, 14, 224, 54, 225, 226, 227, 228, 229, 230, 231, 232, 55, 50, 51, 52, 53, 45, 46, 48, 233, 134, 135, 136, 137, 117, 118, 119, 138, 139, 140, 141, 49, 142, 143, 144, 145, 234, 180, 181, 182, 817, 818, 819, 820, 821, 822, 823, 824, 825, 848, 849, 850, 851, 852, 853] (by decide +kernel) (by decide +kernel)
set_option maxRecDepth 20000 in
theorem gL_law_X8_draw : GoodIn wsL_law (wsV RL 31 RX8 yX8_draw wsX8_draw) := goodIn_app (goodIn_of _ (by decide +kernel)) ggL_law_X8_draw
set_option maxRecDepth 20000 in
theorem ggL_law_X9_draw : GoodIn wsL_law wsX9_draw := goodIn_r _ [238, 239, 240, 241, 242, 243, 244, 110, 245, 104, 246, 247, 155, 156, 5, 157, 158, 159, 160, 161, 162, 248, 213, 214, 215, 168, 169, 170, 171, 102, 103, 826, 827, 828, 829, 830, 831, 832, 833, 834, 835, 836, 837, 838, 839, 840, 841, 842, 843, 844, 845, 846, 847] (by decide +kernel) (by decide +kernel)
set_option maxRecDepth 20000 in
theorem gL_law_X9_draw : GoodIn wsL_law (wsV RL 34 RX9 yX9_draw wsX9_draw) := goodIn_app (goodIn_of _ (by decide +kernel)) ggL_law_X9_draw
set_option maxRecDepth 20000 in
theorem ggL_law_X8_of : GoodIn wsL_law wsX8_of := goodIn_r _ [252, 15, 116, 117, 118, 14, 119, 54, 176, 177, 2, 178, 123, 124, 125, 126, 127, 253, 254, 255, 256, 45, 46, 48, 257, 258, 259, 260, 817, 818, 819, 820, 821, 822, 823, 824, 825, 848, 849, 850, 851, 852, 853] (by decide +kernel) (by decide +kernel)
set_option maxRecDepth 20000 in
theorem gL_law_X8_of : GoodIn wsL_law (wsV RL 35 RX8 yX8_of wsX8_of) := goodIn_app (goodIn_of _ (by decide +kernel)) ggL_law_X8_of
set_option maxRecDepth 20000 in
theorem ggL_law_X9_of : GoodIn wsL_law wsX9_of := goodIn_r _ [264, 265, 110, 102, 151, 152, 153, 5, 154, 155, 156, 157, 158, 159, 160, 161, 162, 266, 267, 268, 269, 103, 104, 826, 827, 828, 829, 830, 831, 832, 833, 834, 835, 836, 837, 838, 839, 840, 841, 842, 843, 844, 845, 846, 847] (by decide +kernel) (by decide +kernel)
set_option maxRecDepth 20000 in
theorem gL_law_X9_of : GoodIn wsL_law (wsV RL 38 RX9 yX9_of wsX9_of) := goodIn_app (goodIn_of _ (by decide +kernel)) ggL_law_X9_of
set_option maxRecDepth 20000 in
theorem ggL_law_X8_far : GoodIn wsL_law wsX8_far := goodIn_r _ [273, 15, 116, 117, 118, 14, 119, 54, 123, 124, 125, 2, 126, 127, 274, 143, 144, 145, 49, 817, 818, 819, 820, 821, 822, 823, 824, 825, 848, 849, 850, 851, 852, 853] (by decide +kernel) (by decide +kernel)
set_option maxRecDepth 20000 in
theorem gL_law_X8_far : GoodIn wsL_law (wsV RL 39 RX8 yX8_far wsX8_far) := goodIn_app (goodIn_of _ (by decide +kernel)) ggL_law_X8_far
set_option maxRecDepth 20000 in
theorem ggL_law_X9_far : GoodIn wsL_law wsX9_far := goodIn_r _ [278, 151, 152, 153, 5, 154, 110, 155, 156, 157, 279, 280, 281, 282, 103, 102, 158, 159, 160, 161, 162, 826, 827, 828, 829, 830, 831, 832, 833, 834, 835, 836, 837, 838, 839, 840, 841, 842, 843, 844, 845, 846, 847] (by decide +kernel) (by decide +kernel)
set_option maxRecDepth 20000 in
theorem gL_law_X9_far : GoodIn wsL_law (wsV RL 42 RX9 yX9_far wsX9_far) := goodIn_app (goodIn_of _ (by decide +kernel)) ggL_law_X9_far
set_option maxRecDepth 20000 in
theorem ggL_law_X8_way : GoodIn wsL_law wsX8_way := goodIn_r _ [286, 15, 19, 287, 288, 116, 117, 118, 14, 119, 54, 289, 290, 291, 2, 292, 127, 293, 294, 295, 18, 296, 60, 62, 297, 298, 817, 818, 819, 820, 821, 822, 823, 824, 825, 854, 855, 856, 857, 848, 849, 850, 851, 852, 853] (by decide +kernel) (by decide +kernel)
set_option maxRecDepth 20000 in
theorem gL_law_X8_way : GoodIn wsL_law (wsV RL 43 RX8 yX8_way wsX8_way) := goodIn_app (goodIn_of _ (by decide +kernel)) ggL_law_X8_way
set_option maxRecDepth 20000 in
theorem ggL_law_X9_way : GoodIn wsL_law wsX9_way := goodIn_r _ [302, 303, 107, 151, 152, 153, 5, 154, 110, 155, 156, 157, 158, 159, 160, 161, 162, 304, 305, 306, 307, 102, 826, 827, 828, 829, 830, 831, 832, 833, 834, 835, 836, 837, 838, 839, 840, 841, 842, 843, 844, 845, 846, 847] (by decide +kernel) (by decide +kernel)
set_option maxRecDepth 20000 in
theorem gL_law_X9_way : GoodIn wsL_law (wsV RL 47 RX9 yX9_way wsX9_way) := goodIn_app (goodIn_of _ (by decide +kernel)) ggL_law_X9_way
set_option maxRecDepth 20000 in
theorem ggL_law_X8_longest : GoodIn wsL_law wsX8_longest := goodIn_r _ [311, 19, 176, 177, 2, 178, 123, 124, 125, 126, 127, 312, 313, 314, 18, 315, 62, 316, 317, 143, 144, 14, 145, 49, 817, 818, 819, 820, 821, 822, 823, 824, 825, 854, 855, 856, 857, 848, 849, 850, 851, 852, 853] (by decide +kernel) (by decide +kernel)
set_option maxRecDepth 20000 in
theorem gL_law_X8_longest : GoodIn wsL_law (wsV RL 48 RX8 yX8_longest wsX8_longest) := goodIn_app (goodIn_of _ (by decide +kernel)) ggL_law_X8_longest
set_option maxRecDepth 20000 in
theorem ggL_law_X9_longest : GoodIn wsL_law wsX9_longest := goodIn_r _ [321, 322, 110, 155, 156, 5, 157, 158, 159, 160, 161, 162, 323, 324, 325, 326, 279, 280, 281, 282, 103, 102, 826, 827, 828, 829, 830, 831, 832, 833, 834, 835, 836, 837, 838, 839, 840, 841, 842, 843, 844, 845, 846, 847] (by decide +kernel) (by decide +kernel)
set_option maxRecDepth 20000 in
theorem gL_law_X9_longest : GoodIn wsL_law (wsV RL 52 RX9 yX9_longest wsX9_longest) := goodIn_app (goodIn_of _ (by decide +kernel)) ggL_law_X9_longest
set_option maxRecDepth 20000 in
theorem ggL_law_X8_middle : GoodIn wsL_law wsX8_middle := goodIn_r _ [330, 19, 176, 177, 2, 178, 123, 124, 125, 126, 127, 331, 332, 333, 18, 334, 62, 316, 335, 336, 337, 338, 61, 297, 339, 340, 341, 342, 343, 344, 345, 346, 347, 348, 349, 350, 317, 143, 144, 14, 145, 49, 351, 352, 353, 354, 355, 356, 357, 358, 817, 818, 819, 820, 821, 822, 823, 824, 825, 854, 855, 856, 857, 848, 849, 850, 851, 852, 853] (by decide +kernel) (by decide +kernel)
set_option maxRecDepth 20000 in
theorem gL_law_X8_middle : GoodIn wsL_law (wsV RL 53 RX8 yX8_middle wsX8_middle) := goodIn_app (goodIn_of _ (by decide +kernel)) ggL_law_X8_middle
set_option maxRecDepth 20000 in
theorem ggL_law_X9_middle : GoodIn wsL_law wsX9_middle := goodIn_r _ [362, 322, 110, 155, 156, 5, 157, 158, 159, 160, 161, 162, 323, 324, 325, 326, 279, 280, 281, 282, 103, 102, 363, 364, 365, 366, 367, 368, 369, 370, 108, 826, 827, 828, 829, 830, 831, 832, 833, 834, 835, 836, 837, 838, 839, 840, 841, 842, 843, 844, 845, 846, 847] (by decide +kernel) (by decide +kernel)
set_option maxRecDepth 20000 in
theorem gL_law_X9_middle : GoodIn wsL_law (wsV RL 56 RX9 yX9_middle wsX9_middle) := goodIn_app (goodIn_of _ (by decide +kernel)) ggL_law_X9_middle
set_option maxRecDepth 20000 in
theorem ggL_law_X8_nearest : GoodIn wsL_law wsX8_nearest := goodIn_r _ [374, 15, 23, 116, 117, 118, 14, 119, 54, 176, 177, 2, 178, 123, 124, 125, 126, 127, 375, 376, 377, 22, 378, 379, 68, 380, 381, 382, 143, 144, 145, 49, 383, 384, 385, 386, 274, 817, 818, 819, 820, 821, 822, 823, 824, 825, 848, 849, 850, 851, 852, 853, 858, 859] (by decide +kernel) (by decide +kernel)
set_option maxRecDepth 20000 in
theorem gL_law_X8_nearest : GoodIn wsL_law (wsV RL 57 RX8 yX8_nearest wsX8_nearest) := goodIn_app (goodIn_of _ (by decide +kernel)) ggL_law_X8_nearest
set_option maxRecDepth 20000 in
theorem ggL_law_X9_nearest : GoodIn wsL_law wsX9_nearest := goodIn_r _ [390, 151, 152, 153, 5, 154, 110, 155, 156, 157, 158, 159, 160, 161, 162, 391, 392, 393, 394, 104, 279, 280, 281, 282, 103, 102, 826, 827, 828, 829, 830, 831, 832, 833, 834, 835, 836, 837, 838, 839, 840, 841, 842, 843, 844, 845, 846, 847] (by decide +kernel) (by decide +kernel)
set_option maxRecDepth 20000 in
theorem gL_law_X9_nearest : GoodIn wsL_law (wsV RL 60 RX9 yX9_nearest wsX9_nearest) := goodIn_app (goodIn_of _ (by decide +kernel)) ggL_law_X9_nearest
set_option maxRecDepth 20000 in
theorem ggL_law_X8_turn : GoodIn wsL_law wsX8_turn := goodIn_r _ [398, 15, 23, 116, 117, 118, 14, 119, 54, 176, 177, 2, 178, 123, 124, 125, 126, 127, 399, 400, 401, 22, 402, 68, 380, 381, 403, 404, 405, 406, 382, 143, 144, 145, 49, 383, 384, 385, 386, 274, 817, 818, 819, 820, 821, 822, 823, 824, 825, 848, 849, 850, 851, 852, 853, 858, 859] (by decide +kernel) (by decide +kernel)
set_option maxRecDepth 20000 in
theorem gL_law_X8_turn : GoodIn wsL_law (wsV RL 61 RX8 yX8_turn wsX8_turn) := goodIn_app (goodIn_of _ (by decide +kernel)) ggL_law_X8_turn
set_option maxRecDepth 20000 in
theorem ggL_law_X9_turn : GoodIn wsL_law wsX9_turn := goodIn_r _ [410, 110, 104, 151, 152, 153, 5, 154, 155, 156, 157, 158, 159, 160, 161, 162, 279, 280, 281, 282, 103, 102, 826, 827, 828, 829, 830, 831, 832, 833, 834, 835, 836, 837, 838, 839, 840, 841, 842, 843, 844, 845, 846, 847] (by decide +kernel) (by decide +kernel)
set_option maxRecDepth 20000 in
theorem gL_law_X9_turn : GoodIn wsL_law (wsV RL 64 RX9 yX9_turn wsX9_turn) := goodIn_app (goodIn_of _ (by decide +kernel)) ggL_law_X9_turn
set_option maxRecDepth 20000 in
theorem ggL_law_X8_within : GoodIn wsL_law wsX8_within := goodIn_r _ [414, 15, 23, 116, 117, 118, 14, 119, 54, 176, 177, 2, 178, 123, 124, 125, 126, 127, 415, 416, 417, 22, 418, 68, 380, 381, 382, 143, 144, 145, 49, 817, 818, 819, 820, 821, 822, 823, 824, 825, 848, 849, 850, 851, 852, 853, 858, 859] (by decide +kernel) (by decide +kernel)
set_option maxRecDepth 20000 in
theorem gL_law_X8_within : GoodIn wsL_law (wsV RL 65 RX8 yX8_within wsX8_within) := goodIn_app (goodIn_of _ (by decide +kernel)) ggL_law_X8_within
set_option maxRecDepth 20000 in
theorem ggL_law_X9_within : GoodIn wsL_law wsX9_within := goodIn_r _ [422, 423, 151, 152, 153, 5, 154, 110, 155, 156, 157, 424, 425, 426, 427, 104, 279, 280, 281, 282, 103, 102, 158, 159, 160, 161, 162, 826, 827, 828, 829, 830, 831, 832, 833, 834, 835, 836, 837, 838, 839, 840, 841, 842, 843, 844, 845, 846, 847] (by decide +kernel) (by decide +kernel)
set_option maxRecDepth 20000 in
theorem gL_law_X9_within : GoodIn wsL_law (wsV RL 68 RX9 yX9_within wsX9_within) := goodIn_app (goodIn_of _ (by decide +kernel)) ggL_law_X9_within
set_option maxRecDepth 20000 in
theorem ggL_law_X8_sum : GoodIn wsL_law wsX8_sum := goodIn_r _ [431, 15, 23, 116, 117, 118, 14, 119, 54, 123, 124, 125, 2, 126, 127, 432, 433, 434, 22, 435, 68, 380, 381, 382, 143, 144, 145, 49, 817, 818, 819, 820, 821, 822, 823, 824, 825, 848, 849, 850, 851, 852, 853, 858, 859] (by decide +kernel) (by decide +kernel)
set_option maxRecDepth 20000 in
theorem gL_law_X8_sum : GoodIn wsL_law (wsV RL 69 RX8 yX8_sum wsX8_sum) := goodIn_app (goodIn_of _ (by decide +kernel)) ggL_law_X8_sum
set_option maxRecDepth 20000 in
theorem ggL_law_X9_sum : GoodIn wsL_law wsX9_sum := goodIn_r _ [439, 151, 152, 153, 5, 154, 110, 155, 156, 157, 440, 441, 442, 443, 104, 279, 280, 281, 282, 103, 102, 158, 159, 160, 161, 162, 826, 827, 828, 829, 830, 831, 832, 833, 834, 835, 836, 837, 838, 839, 840, 841, 842, 843, 844, 845, 846, 847] (by decide +kernel) (by decide +kernel)
set_option maxRecDepth 20000 in
theorem gL_law_X9_sum : GoodIn wsL_law (wsV RL 72 RX9 yX9_sum wsX9_sum) := goodIn_app (goodIn_of _ (by decide +kernel)) ggL_law_X9_sum
set_option maxRecDepth 20000 in
theorem ggL_law_X8_left : GoodIn wsL_law wsX8_left := goodIn_r _ [447, 23, 176, 177, 2, 178, 123, 124, 125, 126, 127, 448, 449, 450, 22, 451, 68, 452, 67, 380, 453, 454, 455, 456, 379, 457, 376, 377, 378, 381, 382, 143, 144, 14, 145, 49, 817, 818, 819, 820, 821, 822, 823, 824, 825, 858, 859, 848, 849, 850, 851, 852, 853] (by decide +kernel) (by decide +kernel)
set_option maxRecDepth 20000 in
theorem gL_law_X8_left : GoodIn wsL_law (wsV RL 73 RX8 yX8_left wsX8_left) := goodIn_app (goodIn_of _ (by decide +kernel)) ggL_law_X8_left
set_option maxRecDepth 20000 in
theorem ggL_law_X9_left : GoodIn wsL_law wsX9_left := goodIn_r _ [461, 462, 155, 156, 5, 157, 158, 159, 160, 161, 162, 463, 464, 465, 466, 110, 391, 392, 393, 394, 104, 279, 280, 281, 282, 103, 102, 826, 827, 828, 829, 830, 831, 832, 833, 834, 835, 836, 837, 838, 839, 840, 841, 842, 843, 844, 845, 846, 847] (by decide +kernel) (by decide +kernel)
set_option maxRecDepth 20000 in
theorem gL_law_X9_left : GoodIn wsL_law (wsV RL 76 RX9 yX9_left wsX9_left) := goodIn_app (goodIn_of _ (by decide +kernel)) ggL_law_X9_left
set_option maxRecDepth 20000 in
theorem ggL_law_X8_more : GoodIn wsL_law wsX8_more := goodIn_r _ [470, 23, 176, 177, 2, 178, 123, 124, 125, 126, 127, 471, 472, 473, 22, 474, 379, 68, 380, 381, 453, 454, 455, 456, 67, 457, 376, 377, 378, 382, 143, 144, 14, 145, 49, 475, 476, 477, 478, 479, 480, 349, 481, 482, 348, 350, 817, 818, 819, 820, 821, 822, 823, 824, 825, 858, 859, 848, 849, 850, 851, 852, 853] (by decide +kernel) (by decide +kernel)
set_option maxRecDepth 20000 in
theorem gL_law_X8_more : GoodIn wsL_law (wsV RL 77 RX8 yX8_more wsX8_more) := goodIn_app (goodIn_of _ (by decide +kernel)) ggL_law_X8_more
set_option maxRecDepth 20000 in
theorem ggL_law_X9_more : GoodIn wsL_law wsX9_more := goodIn_r _ [486, 110, 104, 155, 156, 5, 157, 158, 159, 160, 161, 162, 463, 464, 465, 466, 462, 391, 392, 393, 394, 279, 280, 281, 282, 103, 102, 826, 827, 828, 829, 830, 831, 832, 833, 834, 835, 836, 837, 838, 839, 840, 841, 842, 843, 844, 845, 846, 847] (by decide +kernel) (by decide +kernel)
set_option maxRecDepth 20000 in
theorem gL_law_X9_more : GoodIn wsL_law (wsV RL 80 RX9 yX9_more wsX9_more) := goodIn_app (goodIn_of _ (by decide +kernel)) ggL_law_X9_more
set_option maxRecDepth 20000 in
theorem ggL_law_X8_serves : GoodIn wsL_law wsX8_serves := goodIn_r _ [490, 15, 23, 116, 117, 118, 14, 119, 54, 123, 124, 125, 2, 126, 127, 491, 492, 493, 22, 494, 68, 380, 403, 404, 405, 406, 381, 382, 143, 144, 145, 49, 817, 818, 819, 820, 821, 822, 823, 824, 825, 848, 849, 850, 851, 852, 853, 858, 859] (by decide +kernel) (by decide +kernel)
set_option maxRecDepth 20000 in
theorem gL_law_X8_serves : GoodIn wsL_law (wsV RL 81 RX8 yX8_serves wsX8_serves) := goodIn_app (goodIn_of _ (by decide +kernel)) ggL_law_X8_serves
set_option maxRecDepth 20000 in
theorem ggL_law_X9_serves : GoodIn wsL_law wsX9_serves := goodIn_r _ [498, 104, 110, 151, 152, 153, 5, 154, 155, 156, 157, 158, 159, 160, 161, 162, 391, 392, 393, 394, 279, 280, 281, 282, 103, 102, 826, 827, 828, 829, 830, 831, 832, 833, 834, 835, 836, 837, 838, 839, 840, 841, 842, 843, 844, 845, 846, 847] (by decide +kernel) (by decide +kernel)
set_option maxRecDepth 20000 in
theorem gL_law_X9_serves : GoodIn wsL_law (wsV RL 84 RX9 yX9_serves wsX9_serves) := goodIn_app (goodIn_of _ (by decide +kernel)) ggL_law_X9_serves
set_option maxRecDepth 20000 in
theorem ggL_law_X8_pair : GoodIn wsL_law wsX8_pair := goodIn_r _ [502, 23, 176, 177, 2, 178, 123, 124, 125, 126, 127, 503, 504, 505, 22, 506, 379, 68, 380, 381, 382, 143, 144, 14, 145, 49, 817, 818, 819, 820, 821, 822, 823, 824, 825, 858, 859, 848, 849, 850, 851, 852, 853] (by decide +kernel) (by decide +kernel)
set_option maxRecDepth 20000 in
theorem gL_law_X8_pair : GoodIn wsL_law (wsV RL 85 RX8 yX8_pair wsX8_pair) := goodIn_app (goodIn_of _ (by decide +kernel)) ggL_law_X8_pair
set_option maxRecDepth 20000 in
theorem ggL_law_X9_pair : GoodIn wsL_law wsX9_pair := goodIn_r _ [510, 322, 110, 104, 155, 156, 5, 157, 158, 159, 160, 161, 162, 279, 280, 281, 282, 103, 102, 826, 827, 828, 829, 830, 831, 832, 833, 834, 835, 836, 837, 838, 839, 840, 841, 842, 843, 844, 845, 846, 847] (by decide +kernel) (by decide +kernel)
set_option maxRecDepth 20000 in
theorem gL_law_X9_pair : GoodIn wsL_law (wsV RL 88 RX9 yX9_pair wsX9_pair) := goodIn_app (goodIn_of _ (by decide +kernel)) ggL_law_X9_pair
set_option maxRecDepth 20000 in
theorem ggL_law_X8_type : GoodIn wsL_law wsX8_type := goodIn_r _ [514, 27, 515, 176, 177, 2, 178, 123, 124, 125, 126, 127, 128, 129, 130, 131, 132, 516, 517, 518, 26, 519, 75, 74, 817, 818, 819, 820, 821, 822, 823, 824, 825, 860, 861] (by decide +kernel) (by decide +kernel)
set_option maxRecDepth 20000 in
theorem gL_law_X8_type : GoodIn wsL_law (wsV RL 89 RX8 yX8_type wsX8_type) := goodIn_app (goodIn_of _ (by decide +kernel)) ggL_law_X8_type
set_option maxRecDepth 20000 in
theorem ggL_law_X9_type : GoodIn wsL_law wsX9_type := goodIn_r _ [523, 524, 525, 105, 155, 156, 5, 157, 158, 159, 160, 161, 162, 163, 164, 165, 166, 167, 826, 827, 828, 829, 830, 831, 832, 833, 834, 835, 836, 837, 838, 839, 840, 841, 842, 843, 844, 845, 846, 847] (by decide +kernel) (by decide +kernel)
set_option maxRecDepth 20000 in
theorem gL_law_X9_type : GoodIn wsL_law (wsV RL 92 RX9 yX9_type wsX9_type) := goodIn_app (goodIn_of _ (by decide +kernel)) ggL_law_X9_type
set_option maxRecDepth 20000 in
theorem ggL_law_X8_clear : GoodIn wsL_law wsX8_clear := goodIn_r _ [529, 27, 530, 531, 532, 26, 533, 75, 817, 818, 819, 820, 821, 822, 823, 824, 825, 860, 861] (by decide +kernel) (by decide +kernel)
set_option maxRecDepth 20000 in
theorem gL_law_X8_clear : GoodIn wsL_law (wsV RL 93 RX8 yX8_clear wsX8_clear) := goodIn_app (goodIn_of _ (by decide +kernel)) ggL_law_X8_clear
set_option maxRecDepth 20000 in
theorem ggL_law_X9_clear : GoodIn wsL_law wsX9_clear := goodIn_r _ [537, 525, 826, 827, 828, 829, 830, 831, 832, 833, 834, 835, 836, 837, 838, 839, 840, 841, 842, 843, 844, 845, 846, 847] (by decide +kernel) (by decide +kernel)
set_option maxRecDepth 20000 in
theorem gL_law_X9_clear : GoodIn wsL_law (wsV RL 96 RX9 yX9_clear wsX9_clear) := goodIn_app (goodIn_of _ (by decide +kernel)) ggL_law_X9_clear
set_option maxRecDepth 20000 in
theorem ggL_law_X8_says : GoodIn wsL_law wsX8_says := goodIn_r _ [541, 31, 15, 115, 35, 542, 39, 543, 544, 545, 546, 547, 548, 30, 549, 550, 551, 552, 553, 83, 554, 555, 556, 557, 558, 559, 560, 561, 562, 563, 564, 565, 566, 567, 568, 569, 26, 570, 75, 74, 571, 572, 573, 574, 575, 576, 577, 578, 579, 580, 581, 582, 583, 584, 585, 586, 587, 588, 589, 590, 591, 592, 593, 594, 595, 596, 597, 598, 599, 600, 601, 602, 603, 604, 605, 606, 607, 608, 609, 610, 611, 612, 613, 614, 615, 616, 617, 618, 619, 620, 621, 622, 623, 624, 625, 626, 627, 628, 629, 630, 631, 632, 633, 634, 635, 636, 637, 638, 639, 640, 641, 642, 643, 644, 645, 646, 647, 648, 649, 650, 121, 2, 122, 651, 652, 653, 654, 655, 656, 657, 658, 659, 660, 661, 662, 80, 81, 82, 663, 664, 665, 34, 666, 89, 667, 668, 669, 670, 88, 671, 672, 673, 38, 674, 97, 94, 96, 675, 134, 135, 14, 136, 54, 45, 46, 48, 137, 117, 118, 119, 138, 139, 140, 141, 49, 142, 143, 144, 145, 676, 677, 678, 679, 680, 681, 180, 181, 182, 55, 682, 196, 197, 198, 683, 684, 685, 686, 687, 376, 377, 22, 378, 379, 68, 380, 381, 382, 688, 689, 690, 691, 692, 693, 95, 694, 695, 696, 294, 295, 18, 296, 60, 62, 297, 298, 697, 416, 417, 418, 698, 699, 700, 701, 702, 703, 704, 705, 433, 434, 435, 817, 818, 819, 820, 821, 822, 823, 824, 825, 848, 849, 850, 851, 852, 853, 862, 863, 864, 865, 866, 867, 868, 869, 860, 861, 870, 871, 872, 873, 874, 875, 858, 859, 854, 855, 856, 857] (by decide +kernel) (by decide +kernel)
set_option maxRecDepth 20000 in
theorem gL_law_X8_says : GoodIn wsL_law (wsV RL 97 RX8 yX8_says wsX8_says) := goodIn_app (goodIn_of _ (by decide +kernel)) ggL_law_X8_says
set_option maxRecDepth 20000 in
theorem ggL_law_X9_says : GoodIn wsL_law wsX9_says := goodIn_r _ [709, 710, 110, 711, 712, 713, 714, 715, 716, 5, 717, 525, 105, 718, 719, 720, 721, 722, 723, 724, 109, 725, 726, 727, 728, 729, 730, 731, 732, 733, 155, 156, 157, 734, 735, 736, 737, 738, 739, 740, 741, 742, 743, 744, 745, 746, 150, 747, 748, 749, 750, 751, 106, 752, 753, 754, 755, 756, 168, 169, 170, 171, 102, 103, 104, 757, 758, 759, 760, 187, 188, 189, 190, 203, 204, 205, 206, 761, 762, 763, 764, 391, 392, 393, 394, 279, 280, 281, 282, 765, 766, 767, 768, 303, 107, 304, 305, 306, 307, 424, 425, 426, 427, 769, 770, 771, 772, 440, 441, 442, 443, 826, 827, 828, 829, 830, 831, 832, 833, 834, 835, 836, 837, 838, 839, 840, 841, 842, 843, 844, 845, 846, 847] (by decide +kernel) (by decide +kernel)
set_option maxRecDepth 20000 in
theorem gL_law_X9_says : GoodIn wsL_law (wsV RL 100 RX9 yX9_says wsX9_says) := goodIn_app (goodIn_of _ (by decide +kernel)) ggL_law_X9_says
set_option maxRecDepth 20000 in
theorem ggL_law_X8_answer : GoodIn wsL_law wsX8_answer := goodIn_r _ [776, 35, 777, 778, 289, 290, 291, 2, 292, 127, 817, 818, 819, 820, 821, 822, 823, 824, 825, 870, 871] (by decide +kernel) (by decide +kernel)
set_option maxRecDepth 20000 in
theorem gL_law_X8_answer : GoodIn wsL_law (wsV RL 101 RX8 yX8_answer wsX8_answer) := goodIn_app (goodIn_of _ (by decide +kernel)) ggL_law_X8_answer
set_option maxRecDepth 20000 in
theorem ggL_law_X9_answer : GoodIn wsL_law wsX9_answer := goodIn_r _ [782, 713, 106, 158, 159, 160, 5, 161, 162, 826, 827, 828, 829, 830, 831, 832, 833, 834, 835, 836, 837, 838, 839, 840, 841, 842, 843, 844, 845, 846, 847] (by decide +kernel) (by decide +kernel)
set_option maxRecDepth 20000 in
theorem gL_law_X9_answer : GoodIn wsL_law (wsV RL 104 RX9 yX9_answer wsX9_answer) := goodIn_app (goodIn_of _ (by decide +kernel)) ggL_law_X9_answer
set_option maxRecDepth 20000 in
theorem ggL_law_X8_told : GoodIn wsL_law wsX8_told := goodIn_r _ [786, 176, 177, 2, 178, 123, 124, 125, 126, 127, 787, 788, 789, 790, 132, 27, 515, 15, 115, 791, 35, 777, 817, 818, 819, 820, 821, 822, 823, 824, 825, 860, 861, 848, 849, 850, 851, 852, 853, 870, 871] (by decide +kernel) (by decide +kernel)
set_option maxRecDepth 20000 in
theorem gL_law_X8_told : GoodIn wsL_law (wsV RL 105 RX8 yX8_told wsX8_told) := goodIn_app (goodIn_of _ (by decide +kernel)) ggL_law_X8_told
set_option maxRecDepth 20000 in
theorem ggL_law_X9_told : GoodIn wsL_law wsX9_told := goodIn_r _ [795, 796, 155, 156, 5, 157, 797, 798, 799, 800, 162, 167, 525, 110, 713, 801, 802, 803, 804, 104, 158, 159, 160, 161, 826, 827, 828, 829, 830, 831, 832, 833, 834, 835, 836, 837, 838, 839, 840, 841, 842, 843, 844, 845, 846, 847] (by decide +kernel) (by decide +kernel)
set_option maxRecDepth 20000 in
theorem gL_law_X9_told : GoodIn wsL_law (wsV RL 108 RX9 yX9_told wsX9_told) := goodIn_app (goodIn_of _ (by decide +kernel)) ggL_law_X9_told
set_option maxRecDepth 20000 in
theorem ggL_law_X8_digest : GoodIn wsL_law wsX8_digest := goodIn_r _ [808, 809, 810, 15, 115, 35, 777, 778, 787, 788, 789, 2, 790, 127, 132, 27, 515, 791, 253, 254, 255, 14, 256, 45, 46, 48, 257, 258, 259, 260, 54, 817, 818, 819, 820, 821, 822, 823, 824, 825, 848, 849, 850, 851, 852, 853, 870, 871, 860, 861] (by decide +kernel) (by decide +kernel)
set_option maxRecDepth 20000 in
theorem gL_law_X8_digest : GoodIn wsL_law (wsV RL 109 RX8 yX8_digest wsX8_digest) := goodIn_app (goodIn_of _ (by decide +kernel)) ggL_law_X8_digest
set_option maxRecDepth 20000 in
theorem ggL_law_X9_digest : GoodIn wsL_law wsX9_digest := goodIn_r _ [814, 815, 816, 110, 713, 106, 797, 798, 799, 5, 800, 162, 167, 525, 801, 802, 803, 804, 104, 266, 267, 268, 269, 102, 103, 826, 827, 828, 829, 830, 831, 832, 833, 834, 835, 836, 837, 838, 839, 840, 841, 842, 843, 844, 845, 846, 847] (by decide +kernel) (by decide +kernel)
set_option maxRecDepth 20000 in
theorem gL_law_X9_digest : GoodIn wsL_law (wsV RL 113 RX9 yX9_digest wsX9_digest) := goodIn_app (goodIn_of _ (by decide +kernel)) ggL_law_X9_digest
theorem dL_law_0 : decode cL_law 0 = .ok (.new 7, 3) := by decide +kernel
theorem dL_law_3 : decode cL_law 3 = .ok (.dup, 1) := by decide +kernel
theorem dL_law_4 : decode cL_law 4 = .ok (.invokespecial 9, 3) := by decide +kernel
theorem dL_law_7 : decode cL_law 7 = .ok (.astore_n 1, 1) := by decide +kernel
theorem dL_law_8 : decode cL_law 8 = .ok (.new 10, 3) := by decide +kernel
theorem dL_law_11 : decode cL_law 11 = .ok (.dup, 1) := by decide +kernel
theorem dL_law_12 : decode cL_law 12 = .ok (.invokespecial 12, 3) := by decide +kernel
theorem dL_law_15 : decode cL_law 15 = .ok (.astore_n 2, 1) := by decide +kernel
theorem dL_law_16 : decode cL_law 16 = .ok (.iconst 0, 1) := by decide +kernel
theorem dL_law_17 : decode cL_law 17 = .ok (.istore_n 3, 1) := by decide +kernel
theorem dL_law_18 : decode cL_law 18 = .ok (.iload_n 3, 1) := by decide +kernel
theorem dL_law_19 : decode cL_law 19 = .ok (.aload_n 0, 1) := by decide +kernel
theorem dL_law_20 : decode cL_law 20 = .ok (.arraylength, 1) := by decide +kernel
theorem dL_law_21 : decode cL_law 21 = .ok (.iconst 4, 1) := by decide +kernel
theorem dL_law_22 : decode cL_law 22 = .ok (.isub, 1) := by decide +kernel
theorem dL_law_23 : decode cL_law 23 = .ok (.if_icmp .gt 760, 3) := by decide +kernel
theorem dL_law_26 : decode cL_law 26 = .ok (.aload_n 0, 1) := by decide +kernel
theorem dL_law_27 : decode cL_law 27 = .ok (.iload_n 3, 1) := by decide +kernel
theorem dL_law_28 : decode cL_law 28 = .ok (.iaload, 1) := by decide +kernel
theorem dL_law_29 : decode cL_law 29 = .ok (.bipush 31, 2) := by decide +kernel
theorem dL_law_31 : decode cL_law 31 = .ok (.iand, 1) := by decide +kernel
theorem dL_law_32 : decode cL_law 32 = .ok (.tableswitch 745 0 23 #[112, 145, 178, 211, 224, 257, 290, 323, 366, 389, 412, 445, 488, 521, 544, 567, 590, 613, 636, 659, 672, 685, 708, 731], 112) := by decide +kernel
theorem dL_law_144 : decode cL_law 144 = .ok (.aload_n 1, 1) := by decide +kernel
theorem dL_law_145 : decode cL_law 145 = .ok (.aload_n 0, 1) := by decide +kernel
theorem dL_law_146 : decode cL_law 146 = .ok (.iload_n 3, 1) := by decide +kernel
theorem dL_law_147 : decode cL_law 147 = .ok (.iconst 1, 1) := by decide +kernel
theorem dL_law_148 : decode cL_law 148 = .ok (.iadd, 1) := by decide +kernel
theorem dL_law_149 : decode cL_law 149 = .ok (.iaload, 1) := by decide +kernel
theorem dL_law_150 : decode cL_law 150 = .ok (.aload_n 0, 1) := by decide +kernel
theorem dL_law_151 : decode cL_law 151 = .ok (.iload_n 3, 1) := by decide +kernel
theorem dL_law_152 : decode cL_law 152 = .ok (.iconst 2, 1) := by decide +kernel
theorem dL_law_153 : decode cL_law 153 = .ok (.iadd, 1) := by decide +kernel
theorem dL_law_154 : decode cL_law 154 = .ok (.iaload, 1) := by decide +kernel
theorem dL_law_155 : decode cL_law 155 = .ok (.invokevirtual 13, 3) := by decide +kernel
theorem dL_law_158 : decode cL_law 158 = .ok (.aload_n 2, 1) := by decide +kernel
theorem dL_law_159 : decode cL_law 159 = .ok (.aload_n 0, 1) := by decide +kernel
theorem dL_law_160 : decode cL_law 160 = .ok (.iload_n 3, 1) := by decide +kernel
theorem dL_law_161 : decode cL_law 161 = .ok (.iconst 1, 1) := by decide +kernel
theorem dL_law_162 : decode cL_law 162 = .ok (.iadd, 1) := by decide +kernel
theorem dL_law_163 : decode cL_law 163 = .ok (.iaload, 1) := by decide +kernel
theorem dL_law_164 : decode cL_law 164 = .ok (.aload_n 0, 1) := by decide +kernel
theorem dL_law_165 : decode cL_law 165 = .ok (.iload_n 3, 1) := by decide +kernel
theorem dL_law_166 : decode cL_law 166 = .ok (.iconst 2, 1) := by decide +kernel
theorem dL_law_167 : decode cL_law 167 = .ok (.iadd, 1) := by decide +kernel
theorem dL_law_168 : decode cL_law 168 = .ok (.iaload, 1) := by decide +kernel
theorem dL_law_169 : decode cL_law 169 = .ok (.invokevirtual 17, 3) := by decide +kernel
theorem dL_law_172 : decode cL_law 172 = .ok (.if_icmp .eq 605, 3) := by decide +kernel
theorem dL_law_175 : decode cL_law 175 = .ok (.iconst 0, 1) := by decide +kernel
theorem dL_law_176 : decode cL_law 176 = .ok (.ireturn, 1) := by decide +kernel
theorem dL_law_177 : decode cL_law 177 = .ok (.aload_n 1, 1) := by decide +kernel
theorem dL_law_178 : decode cL_law 178 = .ok (.aload_n 0, 1) := by decide +kernel
theorem dL_law_179 : decode cL_law 179 = .ok (.iload_n 3, 1) := by decide +kernel
theorem dL_law_180 : decode cL_law 180 = .ok (.iconst 1, 1) := by decide +kernel
theorem dL_law_181 : decode cL_law 181 = .ok (.iadd, 1) := by decide +kernel
theorem dL_law_182 : decode cL_law 182 = .ok (.iaload, 1) := by decide +kernel
theorem dL_law_183 : decode cL_law 183 = .ok (.aload_n 0, 1) := by decide +kernel
theorem dL_law_184 : decode cL_law 184 = .ok (.iload_n 3, 1) := by decide +kernel
theorem dL_law_185 : decode cL_law 185 = .ok (.iconst 2, 1) := by decide +kernel
theorem dL_law_186 : decode cL_law 186 = .ok (.iadd, 1) := by decide +kernel
theorem dL_law_187 : decode cL_law 187 = .ok (.iaload, 1) := by decide +kernel
theorem dL_law_188 : decode cL_law 188 = .ok (.invokevirtual 18, 3) := by decide +kernel
theorem dL_law_191 : decode cL_law 191 = .ok (.aload_n 2, 1) := by decide +kernel
theorem dL_law_192 : decode cL_law 192 = .ok (.aload_n 0, 1) := by decide +kernel
theorem dL_law_193 : decode cL_law 193 = .ok (.iload_n 3, 1) := by decide +kernel
theorem dL_law_194 : decode cL_law 194 = .ok (.iconst 1, 1) := by decide +kernel
theorem dL_law_195 : decode cL_law 195 = .ok (.iadd, 1) := by decide +kernel
theorem dL_law_196 : decode cL_law 196 = .ok (.iaload, 1) := by decide +kernel
theorem dL_law_197 : decode cL_law 197 = .ok (.aload_n 0, 1) := by decide +kernel
theorem dL_law_198 : decode cL_law 198 = .ok (.iload_n 3, 1) := by decide +kernel
theorem dL_law_199 : decode cL_law 199 = .ok (.iconst 2, 1) := by decide +kernel
theorem dL_law_200 : decode cL_law 200 = .ok (.iadd, 1) := by decide +kernel
theorem dL_law_201 : decode cL_law 201 = .ok (.iaload, 1) := by decide +kernel
theorem dL_law_202 : decode cL_law 202 = .ok (.invokevirtual 21, 3) := by decide +kernel
theorem dL_law_205 : decode cL_law 205 = .ok (.if_icmp .eq 572, 3) := by decide +kernel
theorem dL_law_208 : decode cL_law 208 = .ok (.iconst 0, 1) := by decide +kernel
theorem dL_law_209 : decode cL_law 209 = .ok (.ireturn, 1) := by decide +kernel
theorem dL_law_210 : decode cL_law 210 = .ok (.aload_n 1, 1) := by decide +kernel
theorem dL_law_211 : decode cL_law 211 = .ok (.aload_n 0, 1) := by decide +kernel
theorem dL_law_212 : decode cL_law 212 = .ok (.iload_n 3, 1) := by decide +kernel
theorem dL_law_213 : decode cL_law 213 = .ok (.iconst 1, 1) := by decide +kernel
theorem dL_law_214 : decode cL_law 214 = .ok (.iadd, 1) := by decide +kernel
theorem dL_law_215 : decode cL_law 215 = .ok (.iaload, 1) := by decide +kernel
theorem dL_law_216 : decode cL_law 216 = .ok (.aload_n 0, 1) := by decide +kernel
theorem dL_law_217 : decode cL_law 217 = .ok (.iload_n 3, 1) := by decide +kernel
theorem dL_law_218 : decode cL_law 218 = .ok (.iconst 2, 1) := by decide +kernel
theorem dL_law_219 : decode cL_law 219 = .ok (.iadd, 1) := by decide +kernel
theorem dL_law_220 : decode cL_law 220 = .ok (.iaload, 1) := by decide +kernel
theorem dL_law_221 : decode cL_law 221 = .ok (.invokevirtual 22, 3) := by decide +kernel
theorem dL_law_224 : decode cL_law 224 = .ok (.aload_n 2, 1) := by decide +kernel
theorem dL_law_225 : decode cL_law 225 = .ok (.aload_n 0, 1) := by decide +kernel
theorem dL_law_226 : decode cL_law 226 = .ok (.iload_n 3, 1) := by decide +kernel
theorem dL_law_227 : decode cL_law 227 = .ok (.iconst 1, 1) := by decide +kernel
theorem dL_law_228 : decode cL_law 228 = .ok (.iadd, 1) := by decide +kernel
theorem dL_law_229 : decode cL_law 229 = .ok (.iaload, 1) := by decide +kernel
theorem dL_law_230 : decode cL_law 230 = .ok (.aload_n 0, 1) := by decide +kernel
theorem dL_law_231 : decode cL_law 231 = .ok (.iload_n 3, 1) := by decide +kernel
theorem dL_law_232 : decode cL_law 232 = .ok (.iconst 2, 1) := by decide +kernel
theorem dL_law_233 : decode cL_law 233 = .ok (.iadd, 1) := by decide +kernel
theorem dL_law_234 : decode cL_law 234 = .ok (.iaload, 1) := by decide +kernel
theorem dL_law_235 : decode cL_law 235 = .ok (.invokevirtual 25, 3) := by decide +kernel
theorem dL_law_238 : decode cL_law 238 = .ok (.if_icmp .eq 539, 3) := by decide +kernel
theorem dL_law_241 : decode cL_law 241 = .ok (.iconst 0, 1) := by decide +kernel
theorem dL_law_242 : decode cL_law 242 = .ok (.ireturn, 1) := by decide +kernel
theorem dL_law_243 : decode cL_law 243 = .ok (.aload_n 1, 1) := by decide +kernel
theorem dL_law_244 : decode cL_law 244 = .ok (.invokevirtual 26, 3) := by decide +kernel
theorem dL_law_247 : decode cL_law 247 = .ok (.aload_n 2, 1) := by decide +kernel
theorem dL_law_248 : decode cL_law 248 = .ok (.invokevirtual 30, 3) := by decide +kernel
theorem dL_law_251 : decode cL_law 251 = .ok (.if_icmp .eq 526, 3) := by decide +kernel
theorem dL_law_254 : decode cL_law 254 = .ok (.iconst 0, 1) := by decide +kernel
theorem dL_law_255 : decode cL_law 255 = .ok (.ireturn, 1) := by decide +kernel
theorem dL_law_256 : decode cL_law 256 = .ok (.aload_n 1, 1) := by decide +kernel
theorem dL_law_257 : decode cL_law 257 = .ok (.aload_n 0, 1) := by decide +kernel
theorem dL_law_258 : decode cL_law 258 = .ok (.iload_n 3, 1) := by decide +kernel
theorem dL_law_259 : decode cL_law 259 = .ok (.iconst 1, 1) := by decide +kernel
theorem dL_law_260 : decode cL_law 260 = .ok (.iadd, 1) := by decide +kernel
theorem dL_law_261 : decode cL_law 261 = .ok (.iaload, 1) := by decide +kernel
theorem dL_law_262 : decode cL_law 262 = .ok (.aload_n 0, 1) := by decide +kernel
theorem dL_law_263 : decode cL_law 263 = .ok (.iload_n 3, 1) := by decide +kernel
theorem dL_law_264 : decode cL_law 264 = .ok (.iconst 2, 1) := by decide +kernel
theorem dL_law_265 : decode cL_law 265 = .ok (.iadd, 1) := by decide +kernel
theorem dL_law_266 : decode cL_law 266 = .ok (.iaload, 1) := by decide +kernel
theorem dL_law_267 : decode cL_law 267 = .ok (.invokevirtual 31, 3) := by decide +kernel
theorem dL_law_270 : decode cL_law 270 = .ok (.aload_n 2, 1) := by decide +kernel
theorem dL_law_271 : decode cL_law 271 = .ok (.aload_n 0, 1) := by decide +kernel
theorem dL_law_272 : decode cL_law 272 = .ok (.iload_n 3, 1) := by decide +kernel
theorem dL_law_273 : decode cL_law 273 = .ok (.iconst 1, 1) := by decide +kernel
theorem dL_law_274 : decode cL_law 274 = .ok (.iadd, 1) := by decide +kernel
theorem dL_law_275 : decode cL_law 275 = .ok (.iaload, 1) := by decide +kernel
theorem dL_law_276 : decode cL_law 276 = .ok (.aload_n 0, 1) := by decide +kernel
theorem dL_law_277 : decode cL_law 277 = .ok (.iload_n 3, 1) := by decide +kernel
theorem dL_law_278 : decode cL_law 278 = .ok (.iconst 2, 1) := by decide +kernel
theorem dL_law_279 : decode cL_law 279 = .ok (.iadd, 1) := by decide +kernel
theorem dL_law_280 : decode cL_law 280 = .ok (.iaload, 1) := by decide +kernel
theorem dL_law_281 : decode cL_law 281 = .ok (.invokevirtual 34, 3) := by decide +kernel
theorem dL_law_284 : decode cL_law 284 = .ok (.if_icmp .eq 493, 3) := by decide +kernel
theorem dL_law_287 : decode cL_law 287 = .ok (.iconst 0, 1) := by decide +kernel
theorem dL_law_288 : decode cL_law 288 = .ok (.ireturn, 1) := by decide +kernel
theorem dL_law_289 : decode cL_law 289 = .ok (.aload_n 1, 1) := by decide +kernel
theorem dL_law_290 : decode cL_law 290 = .ok (.aload_n 0, 1) := by decide +kernel
theorem dL_law_291 : decode cL_law 291 = .ok (.iload_n 3, 1) := by decide +kernel
theorem dL_law_292 : decode cL_law 292 = .ok (.iconst 1, 1) := by decide +kernel
theorem dL_law_293 : decode cL_law 293 = .ok (.iadd, 1) := by decide +kernel
theorem dL_law_294 : decode cL_law 294 = .ok (.iaload, 1) := by decide +kernel
theorem dL_law_295 : decode cL_law 295 = .ok (.aload_n 0, 1) := by decide +kernel
theorem dL_law_296 : decode cL_law 296 = .ok (.iload_n 3, 1) := by decide +kernel
theorem dL_law_297 : decode cL_law 297 = .ok (.iconst 2, 1) := by decide +kernel
theorem dL_law_298 : decode cL_law 298 = .ok (.iadd, 1) := by decide +kernel
theorem dL_law_299 : decode cL_law 299 = .ok (.iaload, 1) := by decide +kernel
theorem dL_law_300 : decode cL_law 300 = .ok (.invokevirtual 35, 3) := by decide +kernel
theorem dL_law_303 : decode cL_law 303 = .ok (.aload_n 2, 1) := by decide +kernel
theorem dL_law_304 : decode cL_law 304 = .ok (.aload_n 0, 1) := by decide +kernel
theorem dL_law_305 : decode cL_law 305 = .ok (.iload_n 3, 1) := by decide +kernel
theorem dL_law_306 : decode cL_law 306 = .ok (.iconst 1, 1) := by decide +kernel
theorem dL_law_307 : decode cL_law 307 = .ok (.iadd, 1) := by decide +kernel
theorem dL_law_308 : decode cL_law 308 = .ok (.iaload, 1) := by decide +kernel
theorem dL_law_309 : decode cL_law 309 = .ok (.aload_n 0, 1) := by decide +kernel
theorem dL_law_310 : decode cL_law 310 = .ok (.iload_n 3, 1) := by decide +kernel
theorem dL_law_311 : decode cL_law 311 = .ok (.iconst 2, 1) := by decide +kernel
theorem dL_law_312 : decode cL_law 312 = .ok (.iadd, 1) := by decide +kernel
theorem dL_law_313 : decode cL_law 313 = .ok (.iaload, 1) := by decide +kernel
theorem dL_law_314 : decode cL_law 314 = .ok (.invokevirtual 38, 3) := by decide +kernel
theorem dL_law_317 : decode cL_law 317 = .ok (.if_icmp .eq 460, 3) := by decide +kernel
theorem dL_law_320 : decode cL_law 320 = .ok (.iconst 0, 1) := by decide +kernel
theorem dL_law_321 : decode cL_law 321 = .ok (.ireturn, 1) := by decide +kernel
theorem dL_law_322 : decode cL_law 322 = .ok (.aload_n 1, 1) := by decide +kernel
theorem dL_law_323 : decode cL_law 323 = .ok (.aload_n 0, 1) := by decide +kernel
theorem dL_law_324 : decode cL_law 324 = .ok (.iload_n 3, 1) := by decide +kernel
theorem dL_law_325 : decode cL_law 325 = .ok (.iconst 1, 1) := by decide +kernel
theorem dL_law_326 : decode cL_law 326 = .ok (.iadd, 1) := by decide +kernel
theorem dL_law_327 : decode cL_law 327 = .ok (.iaload, 1) := by decide +kernel
theorem dL_law_328 : decode cL_law 328 = .ok (.aload_n 0, 1) := by decide +kernel
theorem dL_law_329 : decode cL_law 329 = .ok (.iload_n 3, 1) := by decide +kernel
theorem dL_law_330 : decode cL_law 330 = .ok (.iconst 2, 1) := by decide +kernel
theorem dL_law_331 : decode cL_law 331 = .ok (.iadd, 1) := by decide +kernel
theorem dL_law_332 : decode cL_law 332 = .ok (.iaload, 1) := by decide +kernel
theorem dL_law_333 : decode cL_law 333 = .ok (.invokevirtual 39, 3) := by decide +kernel
theorem dL_law_336 : decode cL_law 336 = .ok (.aload_n 2, 1) := by decide +kernel
theorem dL_law_337 : decode cL_law 337 = .ok (.aload_n 0, 1) := by decide +kernel
theorem dL_law_338 : decode cL_law 338 = .ok (.iload_n 3, 1) := by decide +kernel
theorem dL_law_339 : decode cL_law 339 = .ok (.iconst 1, 1) := by decide +kernel
theorem dL_law_340 : decode cL_law 340 = .ok (.iadd, 1) := by decide +kernel
theorem dL_law_341 : decode cL_law 341 = .ok (.iaload, 1) := by decide +kernel
theorem dL_law_342 : decode cL_law 342 = .ok (.aload_n 0, 1) := by decide +kernel
theorem dL_law_343 : decode cL_law 343 = .ok (.iload_n 3, 1) := by decide +kernel
theorem dL_law_344 : decode cL_law 344 = .ok (.iconst 2, 1) := by decide +kernel
theorem dL_law_345 : decode cL_law 345 = .ok (.iadd, 1) := by decide +kernel
theorem dL_law_346 : decode cL_law 346 = .ok (.iaload, 1) := by decide +kernel
theorem dL_law_347 : decode cL_law 347 = .ok (.invokevirtual 42, 3) := by decide +kernel
theorem dL_law_350 : decode cL_law 350 = .ok (.if_icmp .eq 427, 3) := by decide +kernel
theorem dL_law_353 : decode cL_law 353 = .ok (.iconst 0, 1) := by decide +kernel
theorem dL_law_354 : decode cL_law 354 = .ok (.ireturn, 1) := by decide +kernel
theorem dL_law_355 : decode cL_law 355 = .ok (.aload_n 1, 1) := by decide +kernel
theorem dL_law_356 : decode cL_law 356 = .ok (.aload_n 0, 1) := by decide +kernel
theorem dL_law_357 : decode cL_law 357 = .ok (.iload_n 3, 1) := by decide +kernel
theorem dL_law_358 : decode cL_law 358 = .ok (.iconst 1, 1) := by decide +kernel
theorem dL_law_359 : decode cL_law 359 = .ok (.iadd, 1) := by decide +kernel
theorem dL_law_360 : decode cL_law 360 = .ok (.iaload, 1) := by decide +kernel
theorem dL_law_361 : decode cL_law 361 = .ok (.aload_n 0, 1) := by decide +kernel
theorem dL_law_362 : decode cL_law 362 = .ok (.iload_n 3, 1) := by decide +kernel
theorem dL_law_363 : decode cL_law 363 = .ok (.iconst 2, 1) := by decide +kernel
theorem dL_law_364 : decode cL_law 364 = .ok (.iadd, 1) := by decide +kernel
theorem dL_law_365 : decode cL_law 365 = .ok (.iaload, 1) := by decide +kernel
theorem dL_law_366 : decode cL_law 366 = .ok (.aload_n 0, 1) := by decide +kernel
theorem dL_law_367 : decode cL_law 367 = .ok (.iload_n 3, 1) := by decide +kernel
theorem dL_law_368 : decode cL_law 368 = .ok (.iconst 3, 1) := by decide +kernel
theorem dL_law_369 : decode cL_law 369 = .ok (.iadd, 1) := by decide +kernel
theorem dL_law_370 : decode cL_law 370 = .ok (.iaload, 1) := by decide +kernel
theorem dL_law_371 : decode cL_law 371 = .ok (.invokevirtual 43, 3) := by decide +kernel
theorem dL_law_374 : decode cL_law 374 = .ok (.aload_n 2, 1) := by decide +kernel
theorem dL_law_375 : decode cL_law 375 = .ok (.aload_n 0, 1) := by decide +kernel
theorem dL_law_376 : decode cL_law 376 = .ok (.iload_n 3, 1) := by decide +kernel
theorem dL_law_377 : decode cL_law 377 = .ok (.iconst 1, 1) := by decide +kernel
theorem dL_law_378 : decode cL_law 378 = .ok (.iadd, 1) := by decide +kernel
theorem dL_law_379 : decode cL_law 379 = .ok (.iaload, 1) := by decide +kernel
theorem dL_law_380 : decode cL_law 380 = .ok (.aload_n 0, 1) := by decide +kernel
theorem dL_law_381 : decode cL_law 381 = .ok (.iload_n 3, 1) := by decide +kernel
theorem dL_law_382 : decode cL_law 382 = .ok (.iconst 2, 1) := by decide +kernel
theorem dL_law_383 : decode cL_law 383 = .ok (.iadd, 1) := by decide +kernel
theorem dL_law_384 : decode cL_law 384 = .ok (.iaload, 1) := by decide +kernel
theorem dL_law_385 : decode cL_law 385 = .ok (.aload_n 0, 1) := by decide +kernel
theorem dL_law_386 : decode cL_law 386 = .ok (.iload_n 3, 1) := by decide +kernel
theorem dL_law_387 : decode cL_law 387 = .ok (.iconst 3, 1) := by decide +kernel
theorem dL_law_388 : decode cL_law 388 = .ok (.iadd, 1) := by decide +kernel
theorem dL_law_389 : decode cL_law 389 = .ok (.iaload, 1) := by decide +kernel
theorem dL_law_390 : decode cL_law 390 = .ok (.invokevirtual 47, 3) := by decide +kernel
theorem dL_law_393 : decode cL_law 393 = .ok (.if_icmp .eq 384, 3) := by decide +kernel
theorem dL_law_396 : decode cL_law 396 = .ok (.iconst 0, 1) := by decide +kernel
theorem dL_law_397 : decode cL_law 397 = .ok (.ireturn, 1) := by decide +kernel
theorem dL_law_398 : decode cL_law 398 = .ok (.aload_n 1, 1) := by decide +kernel
theorem dL_law_399 : decode cL_law 399 = .ok (.aload_n 0, 1) := by decide +kernel
theorem dL_law_400 : decode cL_law 400 = .ok (.iload_n 3, 1) := by decide +kernel
theorem dL_law_401 : decode cL_law 401 = .ok (.iconst 1, 1) := by decide +kernel
theorem dL_law_402 : decode cL_law 402 = .ok (.iadd, 1) := by decide +kernel
theorem dL_law_403 : decode cL_law 403 = .ok (.iaload, 1) := by decide +kernel
theorem dL_law_404 : decode cL_law 404 = .ok (.invokevirtual 48, 3) := by decide +kernel
theorem dL_law_407 : decode cL_law 407 = .ok (.aload_n 2, 1) := by decide +kernel
theorem dL_law_408 : decode cL_law 408 = .ok (.aload_n 0, 1) := by decide +kernel
theorem dL_law_409 : decode cL_law 409 = .ok (.iload_n 3, 1) := by decide +kernel
theorem dL_law_410 : decode cL_law 410 = .ok (.iconst 1, 1) := by decide +kernel
theorem dL_law_411 : decode cL_law 411 = .ok (.iadd, 1) := by decide +kernel
theorem dL_law_412 : decode cL_law 412 = .ok (.iaload, 1) := by decide +kernel
theorem dL_law_413 : decode cL_law 413 = .ok (.invokevirtual 52, 3) := by decide +kernel
theorem dL_law_416 : decode cL_law 416 = .ok (.if_icmp .eq 361, 3) := by decide +kernel
theorem dL_law_419 : decode cL_law 419 = .ok (.iconst 0, 1) := by decide +kernel
theorem dL_law_420 : decode cL_law 420 = .ok (.ireturn, 1) := by decide +kernel
theorem dL_law_421 : decode cL_law 421 = .ok (.aload_n 1, 1) := by decide +kernel
theorem dL_law_422 : decode cL_law 422 = .ok (.aload_n 0, 1) := by decide +kernel
theorem dL_law_423 : decode cL_law 423 = .ok (.iload_n 3, 1) := by decide +kernel
theorem dL_law_424 : decode cL_law 424 = .ok (.iconst 1, 1) := by decide +kernel
theorem dL_law_425 : decode cL_law 425 = .ok (.iadd, 1) := by decide +kernel
theorem dL_law_426 : decode cL_law 426 = .ok (.iaload, 1) := by decide +kernel
theorem dL_law_427 : decode cL_law 427 = .ok (.invokevirtual 53, 3) := by decide +kernel
theorem dL_law_430 : decode cL_law 430 = .ok (.aload_n 2, 1) := by decide +kernel
theorem dL_law_431 : decode cL_law 431 = .ok (.aload_n 0, 1) := by decide +kernel
theorem dL_law_432 : decode cL_law 432 = .ok (.iload_n 3, 1) := by decide +kernel
theorem dL_law_433 : decode cL_law 433 = .ok (.iconst 1, 1) := by decide +kernel
theorem dL_law_434 : decode cL_law 434 = .ok (.iadd, 1) := by decide +kernel
theorem dL_law_435 : decode cL_law 435 = .ok (.iaload, 1) := by decide +kernel
theorem dL_law_436 : decode cL_law 436 = .ok (.invokevirtual 56, 3) := by decide +kernel
theorem dL_law_439 : decode cL_law 439 = .ok (.if_icmp .eq 338, 3) := by decide +kernel
theorem dL_law_442 : decode cL_law 442 = .ok (.iconst 0, 1) := by decide +kernel
theorem dL_law_443 : decode cL_law 443 = .ok (.ireturn, 1) := by decide +kernel
theorem dL_law_444 : decode cL_law 444 = .ok (.aload_n 1, 1) := by decide +kernel
theorem dL_law_445 : decode cL_law 445 = .ok (.aload_n 0, 1) := by decide +kernel
theorem dL_law_446 : decode cL_law 446 = .ok (.iload_n 3, 1) := by decide +kernel
theorem dL_law_447 : decode cL_law 447 = .ok (.iconst 1, 1) := by decide +kernel
theorem dL_law_448 : decode cL_law 448 = .ok (.iadd, 1) := by decide +kernel
theorem dL_law_449 : decode cL_law 449 = .ok (.iaload, 1) := by decide +kernel
theorem dL_law_450 : decode cL_law 450 = .ok (.aload_n 0, 1) := by decide +kernel
theorem dL_law_451 : decode cL_law 451 = .ok (.iload_n 3, 1) := by decide +kernel
theorem dL_law_452 : decode cL_law 452 = .ok (.iconst 2, 1) := by decide +kernel
theorem dL_law_453 : decode cL_law 453 = .ok (.iadd, 1) := by decide +kernel
theorem dL_law_454 : decode cL_law 454 = .ok (.iaload, 1) := by decide +kernel
theorem dL_law_455 : decode cL_law 455 = .ok (.invokevirtual 57, 3) := by decide +kernel
theorem dL_law_458 : decode cL_law 458 = .ok (.aload_n 2, 1) := by decide +kernel
theorem dL_law_459 : decode cL_law 459 = .ok (.aload_n 0, 1) := by decide +kernel
theorem dL_law_460 : decode cL_law 460 = .ok (.iload_n 3, 1) := by decide +kernel
theorem dL_law_461 : decode cL_law 461 = .ok (.iconst 1, 1) := by decide +kernel
theorem dL_law_462 : decode cL_law 462 = .ok (.iadd, 1) := by decide +kernel
theorem dL_law_463 : decode cL_law 463 = .ok (.iaload, 1) := by decide +kernel
theorem dL_law_464 : decode cL_law 464 = .ok (.aload_n 0, 1) := by decide +kernel
theorem dL_law_465 : decode cL_law 465 = .ok (.iload_n 3, 1) := by decide +kernel
theorem dL_law_466 : decode cL_law 466 = .ok (.iconst 2, 1) := by decide +kernel
theorem dL_law_467 : decode cL_law 467 = .ok (.iadd, 1) := by decide +kernel
theorem dL_law_468 : decode cL_law 468 = .ok (.iaload, 1) := by decide +kernel
theorem dL_law_469 : decode cL_law 469 = .ok (.invokevirtual 60, 3) := by decide +kernel
theorem dL_law_472 : decode cL_law 472 = .ok (.if_icmp .eq 305, 3) := by decide +kernel
theorem dL_law_475 : decode cL_law 475 = .ok (.iconst 0, 1) := by decide +kernel
theorem dL_law_476 : decode cL_law 476 = .ok (.ireturn, 1) := by decide +kernel
theorem dL_law_477 : decode cL_law 477 = .ok (.aload_n 1, 1) := by decide +kernel
theorem dL_law_478 : decode cL_law 478 = .ok (.aload_n 0, 1) := by decide +kernel
theorem dL_law_479 : decode cL_law 479 = .ok (.iload_n 3, 1) := by decide +kernel
theorem dL_law_480 : decode cL_law 480 = .ok (.iconst 1, 1) := by decide +kernel
theorem dL_law_481 : decode cL_law 481 = .ok (.iadd, 1) := by decide +kernel
theorem dL_law_482 : decode cL_law 482 = .ok (.iaload, 1) := by decide +kernel
theorem dL_law_483 : decode cL_law 483 = .ok (.aload_n 0, 1) := by decide +kernel
theorem dL_law_484 : decode cL_law 484 = .ok (.iload_n 3, 1) := by decide +kernel
theorem dL_law_485 : decode cL_law 485 = .ok (.iconst 2, 1) := by decide +kernel
theorem dL_law_486 : decode cL_law 486 = .ok (.iadd, 1) := by decide +kernel
theorem dL_law_487 : decode cL_law 487 = .ok (.iaload, 1) := by decide +kernel
theorem dL_law_488 : decode cL_law 488 = .ok (.aload_n 0, 1) := by decide +kernel
theorem dL_law_489 : decode cL_law 489 = .ok (.iload_n 3, 1) := by decide +kernel
theorem dL_law_490 : decode cL_law 490 = .ok (.iconst 3, 1) := by decide +kernel
theorem dL_law_491 : decode cL_law 491 = .ok (.iadd, 1) := by decide +kernel
theorem dL_law_492 : decode cL_law 492 = .ok (.iaload, 1) := by decide +kernel
theorem dL_law_493 : decode cL_law 493 = .ok (.invokevirtual 61, 3) := by decide +kernel
theorem dL_law_496 : decode cL_law 496 = .ok (.aload_n 2, 1) := by decide +kernel
theorem dL_law_497 : decode cL_law 497 = .ok (.aload_n 0, 1) := by decide +kernel
theorem dL_law_498 : decode cL_law 498 = .ok (.iload_n 3, 1) := by decide +kernel
theorem dL_law_499 : decode cL_law 499 = .ok (.iconst 1, 1) := by decide +kernel
theorem dL_law_500 : decode cL_law 500 = .ok (.iadd, 1) := by decide +kernel
theorem dL_law_501 : decode cL_law 501 = .ok (.iaload, 1) := by decide +kernel
theorem dL_law_502 : decode cL_law 502 = .ok (.aload_n 0, 1) := by decide +kernel
theorem dL_law_503 : decode cL_law 503 = .ok (.iload_n 3, 1) := by decide +kernel
theorem dL_law_504 : decode cL_law 504 = .ok (.iconst 2, 1) := by decide +kernel
theorem dL_law_505 : decode cL_law 505 = .ok (.iadd, 1) := by decide +kernel
theorem dL_law_506 : decode cL_law 506 = .ok (.iaload, 1) := by decide +kernel
theorem dL_law_507 : decode cL_law 507 = .ok (.aload_n 0, 1) := by decide +kernel
theorem dL_law_508 : decode cL_law 508 = .ok (.iload_n 3, 1) := by decide +kernel
theorem dL_law_509 : decode cL_law 509 = .ok (.iconst 3, 1) := by decide +kernel
theorem dL_law_510 : decode cL_law 510 = .ok (.iadd, 1) := by decide +kernel
theorem dL_law_511 : decode cL_law 511 = .ok (.iaload, 1) := by decide +kernel
theorem dL_law_512 : decode cL_law 512 = .ok (.invokevirtual 64, 3) := by decide +kernel
theorem dL_law_515 : decode cL_law 515 = .ok (.if_icmp .eq 262, 3) := by decide +kernel
theorem dL_law_518 : decode cL_law 518 = .ok (.iconst 0, 1) := by decide +kernel
theorem dL_law_519 : decode cL_law 519 = .ok (.ireturn, 1) := by decide +kernel
theorem dL_law_520 : decode cL_law 520 = .ok (.aload_n 1, 1) := by decide +kernel
theorem dL_law_521 : decode cL_law 521 = .ok (.aload_n 0, 1) := by decide +kernel
theorem dL_law_522 : decode cL_law 522 = .ok (.iload_n 3, 1) := by decide +kernel
theorem dL_law_523 : decode cL_law 523 = .ok (.iconst 1, 1) := by decide +kernel
theorem dL_law_524 : decode cL_law 524 = .ok (.iadd, 1) := by decide +kernel
theorem dL_law_525 : decode cL_law 525 = .ok (.iaload, 1) := by decide +kernel
theorem dL_law_526 : decode cL_law 526 = .ok (.aload_n 0, 1) := by decide +kernel
theorem dL_law_527 : decode cL_law 527 = .ok (.iload_n 3, 1) := by decide +kernel
theorem dL_law_528 : decode cL_law 528 = .ok (.iconst 2, 1) := by decide +kernel
theorem dL_law_529 : decode cL_law 529 = .ok (.iadd, 1) := by decide +kernel
theorem dL_law_530 : decode cL_law 530 = .ok (.iaload, 1) := by decide +kernel
theorem dL_law_531 : decode cL_law 531 = .ok (.invokevirtual 65, 3) := by decide +kernel
theorem dL_law_534 : decode cL_law 534 = .ok (.aload_n 2, 1) := by decide +kernel
theorem dL_law_535 : decode cL_law 535 = .ok (.aload_n 0, 1) := by decide +kernel
theorem dL_law_536 : decode cL_law 536 = .ok (.iload_n 3, 1) := by decide +kernel
theorem dL_law_537 : decode cL_law 537 = .ok (.iconst 1, 1) := by decide +kernel
theorem dL_law_538 : decode cL_law 538 = .ok (.iadd, 1) := by decide +kernel
theorem dL_law_539 : decode cL_law 539 = .ok (.iaload, 1) := by decide +kernel
theorem dL_law_540 : decode cL_law 540 = .ok (.aload_n 0, 1) := by decide +kernel
theorem dL_law_541 : decode cL_law 541 = .ok (.iload_n 3, 1) := by decide +kernel
theorem dL_law_542 : decode cL_law 542 = .ok (.iconst 2, 1) := by decide +kernel
theorem dL_law_543 : decode cL_law 543 = .ok (.iadd, 1) := by decide +kernel
theorem dL_law_544 : decode cL_law 544 = .ok (.iaload, 1) := by decide +kernel
theorem dL_law_545 : decode cL_law 545 = .ok (.invokevirtual 68, 3) := by decide +kernel
theorem dL_law_548 : decode cL_law 548 = .ok (.if_icmp .eq 229, 3) := by decide +kernel
theorem dL_law_551 : decode cL_law 551 = .ok (.iconst 0, 1) := by decide +kernel
theorem dL_law_552 : decode cL_law 552 = .ok (.ireturn, 1) := by decide +kernel
theorem dL_law_553 : decode cL_law 553 = .ok (.aload_n 1, 1) := by decide +kernel
theorem dL_law_554 : decode cL_law 554 = .ok (.aload_n 0, 1) := by decide +kernel
theorem dL_law_555 : decode cL_law 555 = .ok (.iload_n 3, 1) := by decide +kernel
theorem dL_law_556 : decode cL_law 556 = .ok (.iconst 1, 1) := by decide +kernel
theorem dL_law_557 : decode cL_law 557 = .ok (.iadd, 1) := by decide +kernel
theorem dL_law_558 : decode cL_law 558 = .ok (.iaload, 1) := by decide +kernel
theorem dL_law_559 : decode cL_law 559 = .ok (.invokevirtual 69, 3) := by decide +kernel
theorem dL_law_562 : decode cL_law 562 = .ok (.aload_n 2, 1) := by decide +kernel
theorem dL_law_563 : decode cL_law 563 = .ok (.aload_n 0, 1) := by decide +kernel
theorem dL_law_564 : decode cL_law 564 = .ok (.iload_n 3, 1) := by decide +kernel
theorem dL_law_565 : decode cL_law 565 = .ok (.iconst 1, 1) := by decide +kernel
theorem dL_law_566 : decode cL_law 566 = .ok (.iadd, 1) := by decide +kernel
theorem dL_law_567 : decode cL_law 567 = .ok (.iaload, 1) := by decide +kernel
theorem dL_law_568 : decode cL_law 568 = .ok (.invokevirtual 72, 3) := by decide +kernel
theorem dL_law_571 : decode cL_law 571 = .ok (.if_icmp .eq 206, 3) := by decide +kernel
theorem dL_law_574 : decode cL_law 574 = .ok (.iconst 0, 1) := by decide +kernel
theorem dL_law_575 : decode cL_law 575 = .ok (.ireturn, 1) := by decide +kernel
theorem dL_law_576 : decode cL_law 576 = .ok (.aload_n 1, 1) := by decide +kernel
theorem dL_law_577 : decode cL_law 577 = .ok (.aload_n 0, 1) := by decide +kernel
theorem dL_law_578 : decode cL_law 578 = .ok (.iload_n 3, 1) := by decide +kernel
theorem dL_law_579 : decode cL_law 579 = .ok (.iconst 1, 1) := by decide +kernel
theorem dL_law_580 : decode cL_law 580 = .ok (.iadd, 1) := by decide +kernel
theorem dL_law_581 : decode cL_law 581 = .ok (.iaload, 1) := by decide +kernel
theorem dL_law_582 : decode cL_law 582 = .ok (.invokevirtual 73, 3) := by decide +kernel
theorem dL_law_585 : decode cL_law 585 = .ok (.aload_n 2, 1) := by decide +kernel
theorem dL_law_586 : decode cL_law 586 = .ok (.aload_n 0, 1) := by decide +kernel
theorem dL_law_587 : decode cL_law 587 = .ok (.iload_n 3, 1) := by decide +kernel
theorem dL_law_588 : decode cL_law 588 = .ok (.iconst 1, 1) := by decide +kernel
theorem dL_law_589 : decode cL_law 589 = .ok (.iadd, 1) := by decide +kernel
theorem dL_law_590 : decode cL_law 590 = .ok (.iaload, 1) := by decide +kernel
theorem dL_law_591 : decode cL_law 591 = .ok (.invokevirtual 76, 3) := by decide +kernel
theorem dL_law_594 : decode cL_law 594 = .ok (.if_icmp .eq 183, 3) := by decide +kernel
theorem dL_law_597 : decode cL_law 597 = .ok (.iconst 0, 1) := by decide +kernel
theorem dL_law_598 : decode cL_law 598 = .ok (.ireturn, 1) := by decide +kernel
theorem dL_law_599 : decode cL_law 599 = .ok (.aload_n 1, 1) := by decide +kernel
theorem dL_law_600 : decode cL_law 600 = .ok (.aload_n 0, 1) := by decide +kernel
theorem dL_law_601 : decode cL_law 601 = .ok (.iload_n 3, 1) := by decide +kernel
theorem dL_law_602 : decode cL_law 602 = .ok (.iconst 1, 1) := by decide +kernel
theorem dL_law_603 : decode cL_law 603 = .ok (.iadd, 1) := by decide +kernel
theorem dL_law_604 : decode cL_law 604 = .ok (.iaload, 1) := by decide +kernel
theorem dL_law_605 : decode cL_law 605 = .ok (.invokevirtual 77, 3) := by decide +kernel
theorem dL_law_608 : decode cL_law 608 = .ok (.aload_n 2, 1) := by decide +kernel
theorem dL_law_609 : decode cL_law 609 = .ok (.aload_n 0, 1) := by decide +kernel
theorem dL_law_610 : decode cL_law 610 = .ok (.iload_n 3, 1) := by decide +kernel
theorem dL_law_611 : decode cL_law 611 = .ok (.iconst 1, 1) := by decide +kernel
theorem dL_law_612 : decode cL_law 612 = .ok (.iadd, 1) := by decide +kernel
theorem dL_law_613 : decode cL_law 613 = .ok (.iaload, 1) := by decide +kernel
theorem dL_law_614 : decode cL_law 614 = .ok (.invokevirtual 80, 3) := by decide +kernel
theorem dL_law_617 : decode cL_law 617 = .ok (.if_icmp .eq 160, 3) := by decide +kernel
theorem dL_law_620 : decode cL_law 620 = .ok (.iconst 0, 1) := by decide +kernel
theorem dL_law_621 : decode cL_law 621 = .ok (.ireturn, 1) := by decide +kernel
theorem dL_law_622 : decode cL_law 622 = .ok (.aload_n 1, 1) := by decide +kernel
theorem dL_law_623 : decode cL_law 623 = .ok (.aload_n 0, 1) := by decide +kernel
theorem dL_law_624 : decode cL_law 624 = .ok (.iload_n 3, 1) := by decide +kernel
theorem dL_law_625 : decode cL_law 625 = .ok (.iconst 1, 1) := by decide +kernel
theorem dL_law_626 : decode cL_law 626 = .ok (.iadd, 1) := by decide +kernel
theorem dL_law_627 : decode cL_law 627 = .ok (.iaload, 1) := by decide +kernel
theorem dL_law_628 : decode cL_law 628 = .ok (.invokevirtual 81, 3) := by decide +kernel
theorem dL_law_631 : decode cL_law 631 = .ok (.aload_n 2, 1) := by decide +kernel
theorem dL_law_632 : decode cL_law 632 = .ok (.aload_n 0, 1) := by decide +kernel
theorem dL_law_633 : decode cL_law 633 = .ok (.iload_n 3, 1) := by decide +kernel
theorem dL_law_634 : decode cL_law 634 = .ok (.iconst 1, 1) := by decide +kernel
theorem dL_law_635 : decode cL_law 635 = .ok (.iadd, 1) := by decide +kernel
theorem dL_law_636 : decode cL_law 636 = .ok (.iaload, 1) := by decide +kernel
theorem dL_law_637 : decode cL_law 637 = .ok (.invokevirtual 84, 3) := by decide +kernel
theorem dL_law_640 : decode cL_law 640 = .ok (.if_icmp .eq 137, 3) := by decide +kernel
theorem dL_law_643 : decode cL_law 643 = .ok (.iconst 0, 1) := by decide +kernel
theorem dL_law_644 : decode cL_law 644 = .ok (.ireturn, 1) := by decide +kernel
theorem dL_law_645 : decode cL_law 645 = .ok (.aload_n 1, 1) := by decide +kernel
theorem dL_law_646 : decode cL_law 646 = .ok (.aload_n 0, 1) := by decide +kernel
theorem dL_law_647 : decode cL_law 647 = .ok (.iload_n 3, 1) := by decide +kernel
theorem dL_law_648 : decode cL_law 648 = .ok (.iconst 1, 1) := by decide +kernel
theorem dL_law_649 : decode cL_law 649 = .ok (.iadd, 1) := by decide +kernel
theorem dL_law_650 : decode cL_law 650 = .ok (.iaload, 1) := by decide +kernel
theorem dL_law_651 : decode cL_law 651 = .ok (.invokevirtual 85, 3) := by decide +kernel
theorem dL_law_654 : decode cL_law 654 = .ok (.aload_n 2, 1) := by decide +kernel
theorem dL_law_655 : decode cL_law 655 = .ok (.aload_n 0, 1) := by decide +kernel
theorem dL_law_656 : decode cL_law 656 = .ok (.iload_n 3, 1) := by decide +kernel
theorem dL_law_657 : decode cL_law 657 = .ok (.iconst 1, 1) := by decide +kernel
theorem dL_law_658 : decode cL_law 658 = .ok (.iadd, 1) := by decide +kernel
theorem dL_law_659 : decode cL_law 659 = .ok (.iaload, 1) := by decide +kernel
theorem dL_law_660 : decode cL_law 660 = .ok (.invokevirtual 88, 3) := by decide +kernel
theorem dL_law_663 : decode cL_law 663 = .ok (.if_icmp .eq 114, 3) := by decide +kernel
theorem dL_law_666 : decode cL_law 666 = .ok (.iconst 0, 1) := by decide +kernel
theorem dL_law_667 : decode cL_law 667 = .ok (.ireturn, 1) := by decide +kernel
theorem dL_law_668 : decode cL_law 668 = .ok (.aload_n 1, 1) := by decide +kernel
theorem dL_law_669 : decode cL_law 669 = .ok (.aload_n 0, 1) := by decide +kernel
theorem dL_law_670 : decode cL_law 670 = .ok (.iload_n 3, 1) := by decide +kernel
theorem dL_law_671 : decode cL_law 671 = .ok (.iconst 1, 1) := by decide +kernel
theorem dL_law_672 : decode cL_law 672 = .ok (.iadd, 1) := by decide +kernel
theorem dL_law_673 : decode cL_law 673 = .ok (.iaload, 1) := by decide +kernel
theorem dL_law_674 : decode cL_law 674 = .ok (.invokevirtual 89, 3) := by decide +kernel
theorem dL_law_677 : decode cL_law 677 = .ok (.aload_n 2, 1) := by decide +kernel
theorem dL_law_678 : decode cL_law 678 = .ok (.aload_n 0, 1) := by decide +kernel
theorem dL_law_679 : decode cL_law 679 = .ok (.iload_n 3, 1) := by decide +kernel
theorem dL_law_680 : decode cL_law 680 = .ok (.iconst 1, 1) := by decide +kernel
theorem dL_law_681 : decode cL_law 681 = .ok (.iadd, 1) := by decide +kernel
theorem dL_law_682 : decode cL_law 682 = .ok (.iaload, 1) := by decide +kernel
theorem dL_law_683 : decode cL_law 683 = .ok (.invokevirtual 92, 3) := by decide +kernel
theorem dL_law_686 : decode cL_law 686 = .ok (.if_icmp .eq 91, 3) := by decide +kernel
theorem dL_law_689 : decode cL_law 689 = .ok (.iconst 0, 1) := by decide +kernel
theorem dL_law_690 : decode cL_law 690 = .ok (.ireturn, 1) := by decide +kernel
theorem dL_law_691 : decode cL_law 691 = .ok (.aload_n 1, 1) := by decide +kernel
theorem dL_law_692 : decode cL_law 692 = .ok (.invokevirtual 93, 3) := by decide +kernel
theorem dL_law_695 : decode cL_law 695 = .ok (.aload_n 2, 1) := by decide +kernel
theorem dL_law_696 : decode cL_law 696 = .ok (.invokevirtual 96, 3) := by decide +kernel
theorem dL_law_699 : decode cL_law 699 = .ok (.if_icmp .eq 78, 3) := by decide +kernel
theorem dL_law_702 : decode cL_law 702 = .ok (.iconst 0, 1) := by decide +kernel
theorem dL_law_703 : decode cL_law 703 = .ok (.ireturn, 1) := by decide +kernel
theorem dL_law_704 : decode cL_law 704 = .ok (.aload_n 1, 1) := by decide +kernel
theorem dL_law_705 : decode cL_law 705 = .ok (.invokevirtual 97, 3) := by decide +kernel
theorem dL_law_708 : decode cL_law 708 = .ok (.aload_n 2, 1) := by decide +kernel
theorem dL_law_709 : decode cL_law 709 = .ok (.invokevirtual 100, 3) := by decide +kernel
theorem dL_law_712 : decode cL_law 712 = .ok (.if_icmp .eq 65, 3) := by decide +kernel
theorem dL_law_715 : decode cL_law 715 = .ok (.iconst 0, 1) := by decide +kernel
theorem dL_law_716 : decode cL_law 716 = .ok (.ireturn, 1) := by decide +kernel
theorem dL_law_717 : decode cL_law 717 = .ok (.aload_n 1, 1) := by decide +kernel
theorem dL_law_718 : decode cL_law 718 = .ok (.aload_n 0, 1) := by decide +kernel
theorem dL_law_719 : decode cL_law 719 = .ok (.iload_n 3, 1) := by decide +kernel
theorem dL_law_720 : decode cL_law 720 = .ok (.iconst 1, 1) := by decide +kernel
theorem dL_law_721 : decode cL_law 721 = .ok (.iadd, 1) := by decide +kernel
theorem dL_law_722 : decode cL_law 722 = .ok (.iaload, 1) := by decide +kernel
theorem dL_law_723 : decode cL_law 723 = .ok (.invokevirtual 101, 3) := by decide +kernel
theorem dL_law_726 : decode cL_law 726 = .ok (.aload_n 2, 1) := by decide +kernel
theorem dL_law_727 : decode cL_law 727 = .ok (.aload_n 0, 1) := by decide +kernel
theorem dL_law_728 : decode cL_law 728 = .ok (.iload_n 3, 1) := by decide +kernel
theorem dL_law_729 : decode cL_law 729 = .ok (.iconst 1, 1) := by decide +kernel
theorem dL_law_730 : decode cL_law 730 = .ok (.iadd, 1) := by decide +kernel
theorem dL_law_731 : decode cL_law 731 = .ok (.iaload, 1) := by decide +kernel
theorem dL_law_732 : decode cL_law 732 = .ok (.invokevirtual 104, 3) := by decide +kernel
theorem dL_law_735 : decode cL_law 735 = .ok (.if_icmp .eq 42, 3) := by decide +kernel
theorem dL_law_738 : decode cL_law 738 = .ok (.iconst 0, 1) := by decide +kernel
theorem dL_law_739 : decode cL_law 739 = .ok (.ireturn, 1) := by decide +kernel
theorem dL_law_740 : decode cL_law 740 = .ok (.aload_n 1, 1) := by decide +kernel
theorem dL_law_741 : decode cL_law 741 = .ok (.aload_n 0, 1) := by decide +kernel
theorem dL_law_742 : decode cL_law 742 = .ok (.iload_n 3, 1) := by decide +kernel
theorem dL_law_743 : decode cL_law 743 = .ok (.iconst 1, 1) := by decide +kernel
theorem dL_law_744 : decode cL_law 744 = .ok (.iadd, 1) := by decide +kernel
theorem dL_law_745 : decode cL_law 745 = .ok (.iaload, 1) := by decide +kernel
theorem dL_law_746 : decode cL_law 746 = .ok (.invokevirtual 105, 3) := by decide +kernel
theorem dL_law_749 : decode cL_law 749 = .ok (.aload_n 2, 1) := by decide +kernel
theorem dL_law_750 : decode cL_law 750 = .ok (.aload_n 0, 1) := by decide +kernel
theorem dL_law_751 : decode cL_law 751 = .ok (.iload_n 3, 1) := by decide +kernel
theorem dL_law_752 : decode cL_law 752 = .ok (.iconst 1, 1) := by decide +kernel
theorem dL_law_753 : decode cL_law 753 = .ok (.iadd, 1) := by decide +kernel
theorem dL_law_754 : decode cL_law 754 = .ok (.iaload, 1) := by decide +kernel
theorem dL_law_755 : decode cL_law 755 = .ok (.invokevirtual 108, 3) := by decide +kernel
theorem dL_law_758 : decode cL_law 758 = .ok (.if_icmp .eq 19, 3) := by decide +kernel
theorem dL_law_761 : decode cL_law 761 = .ok (.iconst 0, 1) := by decide +kernel
theorem dL_law_762 : decode cL_law 762 = .ok (.ireturn, 1) := by decide +kernel
theorem dL_law_763 : decode cL_law 763 = .ok (.aload_n 1, 1) := by decide +kernel
theorem dL_law_764 : decode cL_law 764 = .ok (.invokevirtual 109, 3) := by decide +kernel
theorem dL_law_767 : decode cL_law 767 = .ok (.aload_n 2, 1) := by decide +kernel
theorem dL_law_768 : decode cL_law 768 = .ok (.invokevirtual 113, 3) := by decide +kernel
theorem dL_law_771 : decode cL_law 771 = .ok (.lcmp, 1) := by decide +kernel
theorem dL_law_772 : decode cL_law 772 = .ok (.ifCond .eq 5, 3) := by decide +kernel
theorem dL_law_775 : decode cL_law 775 = .ok (.iconst 0, 1) := by decide +kernel
theorem dL_law_776 : decode cL_law 776 = .ok (.ireturn, 1) := by decide +kernel
theorem dL_law_777 : decode cL_law 777 = .ok (.iinc 3 4, 3) := by decide +kernel
theorem dL_law_780 : decode cL_law 780 = .ok (.goto (-762), 3) := by decide +kernel
theorem dL_law_783 : decode cL_law 783 = .ok (.iconst 1, 1) := by decide +kernel
theorem dL_law_784 : decode cL_law 784 = .ok (.ireturn, 1) := by decide +kernel
end
section
theorem mt0 {w : Cond} (h : w ∈ k2_sels lw_privs) : w ∈ lw_tbl := List.mem_append_left _ h
theorem mtt {w : Cond} (h : w ∈ tables_1) : w ∈ lw_tbl := List.mem_append_right _ h
theorem mt1 {w : Cond} (h : w ∈ tables_1_1) : w ∈ lw_tbl := mtt (List.mem_append_left _ h)
theorem mt2 {w : Cond} (h : w ∈ tables_1_2) : w ∈ lw_tbl := mtt (List.mem_append_right _ (List.mem_append_left _ h))
theorem mt3 {w : Cond} (h : w ∈ tables_1_3) : w ∈ lw_tbl := mtt (List.mem_append_right _ (List.mem_append_right _ (List.mem_append_left _ h)))
theorem mt4 {w : Cond} (h : w ∈ tables_1_4) : w ∈ lw_tbl := mtt (List.mem_append_right _ (List.mem_append_right _ (List.mem_append_right _ (List.mem_append_left _ h))))
theorem mt5 {w : Cond} (h : w ∈ tables_1_5) : w ∈ lw_tbl := mtt (List.mem_append_right _ (List.mem_append_right _ (List.mem_append_right _ (List.mem_append_right _ h))))
set_option maxRecDepth 20000 in
theorem lin_1 : ∀ w ∈ wsL_law_r1, w ∈ lw_tbl := List.forall_mem_cons.mpr ⟨mt1 (List.mem_of_getElem? (i := 16) rfl), List.forall_mem_cons.mpr ⟨mt1 (List.mem_of_getElem? (i := 17) rfl), List.forall_mem_cons.mpr ⟨mt1 (List.mem_of_getElem? (i := 1) rfl), List.forall_mem_cons.mpr ⟨mt3 (List.mem_of_getElem? (i := 164) rfl), List.forall_mem_cons.mpr ⟨mt3 (List.mem_of_getElem? (i := 165) rfl), List.forall_mem_cons.mpr ⟨mt1 (List.mem_of_getElem? (i := 9) rfl), List.forall_mem_cons.mpr ⟨mt1 (List.mem_of_getElem? (i := 18) rfl), List.forall_mem_cons.mpr ⟨mt1 (List.mem_of_getElem? (i := 19) rfl), List.forall_mem_cons.mpr ⟨mt1 (List.mem_of_getElem? (i := 20) rfl), List.forall_mem_cons.mpr ⟨mt1 (List.mem_of_getElem? (i := 21) rfl), List.forall_mem_cons.mpr ⟨mt1 (List.mem_of_getElem? (i := 22) rfl), List.forall_mem_cons.mpr ⟨mt1 (List.mem_of_getElem? (i := 23) rfl), List.forall_mem_cons.mpr ⟨mt1 (List.mem_of_getElem? (i := 24) rfl), List.forall_mem_cons.mpr ⟨mt1 (List.mem_of_getElem? (i := 25) rfl), List.forall_mem_cons.mpr ⟨mt1 (List.mem_of_getElem? (i := 2) rfl), List.forall_mem_cons.mpr ⟨mt1 (List.mem_of_getElem? (i := 186) rfl), List.forall_mem_cons.mpr ⟨mt1 (List.mem_of_getElem? (i := 65) rfl), List.forall_mem_cons.mpr ⟨mt1 (List.mem_of_getElem? (i := 66) rfl), List.forall_mem_cons.mpr ⟨mt1 (List.mem_of_getElem? (i := 3) rfl), List.forall_mem_cons.mpr ⟨mt1 (List.mem_of_getElem? (i := 187) rfl), List.forall_mem_cons.mpr ⟨mt1 (List.mem_of_getElem? (i := 88) rfl), List.forall_mem_cons.mpr ⟨mt1 (List.mem_of_getElem? (i := 89) rfl), List.forall_mem_cons.mpr ⟨mt1 (List.mem_of_getElem? (i := 4) rfl), List.forall_mem_cons.mpr ⟨mt1 (List.mem_of_getElem? (i := 188) rfl), fun _ h => absurd h List.not_mem_nil⟩⟩⟩⟩⟩⟩⟩⟩⟩⟩⟩⟩⟩⟩⟩⟩⟩⟩⟩⟩⟩⟩⟩⟩
set_option maxRecDepth 20000 in
theorem lin_2 : ∀ w ∈ wsL_law_r2, w ∈ lw_tbl := List.forall_mem_cons.mpr ⟨mt1 (List.mem_of_getElem? (i := 101) rfl), List.forall_mem_cons.mpr ⟨mt1 (List.mem_of_getElem? (i := 102) rfl), List.forall_mem_cons.mpr ⟨mt1 (List.mem_of_getElem? (i := 5) rfl), List.forall_mem_cons.mpr ⟨mt1 (List.mem_of_getElem? (i := 189) rfl), List.forall_mem_cons.mpr ⟨mt1 (List.mem_of_getElem? (i := 117) rfl), List.forall_mem_cons.mpr ⟨mt1 (List.mem_of_getElem? (i := 118) rfl), List.forall_mem_cons.mpr ⟨mt1 (List.mem_of_getElem? (i := 6) rfl), List.forall_mem_cons.mpr ⟨mt1 (List.mem_of_getElem? (i := 190) rfl), List.forall_mem_cons.mpr ⟨mt1 (List.mem_of_getElem? (i := 152) rfl), List.forall_mem_cons.mpr ⟨mt1 (List.mem_of_getElem? (i := 153) rfl), List.forall_mem_cons.mpr ⟨mt1 (List.mem_of_getElem? (i := 7) rfl), List.forall_mem_cons.mpr ⟨mt1 (List.mem_of_getElem? (i := 191) rfl), List.forall_mem_cons.mpr ⟨mt1 (List.mem_of_getElem? (i := 167) rfl), List.forall_mem_cons.mpr ⟨mt1 (List.mem_of_getElem? (i := 168) rfl), List.forall_mem_cons.mpr ⟨mt1 (List.mem_of_getElem? (i := 8) rfl), List.forall_mem_cons.mpr ⟨mt1 (List.mem_of_getElem? (i := 192) rfl), List.forall_mem_cons.mpr ⟨mt1 (List.mem_of_getElem? (i := 26) rfl), List.forall_mem_cons.mpr ⟨mt1 (List.mem_of_getElem? (i := 27) rfl), List.forall_mem_cons.mpr ⟨mt1 (List.mem_of_getElem? (i := 28) rfl), List.forall_mem_cons.mpr ⟨mt1 (List.mem_of_getElem? (i := 29) rfl), List.forall_mem_cons.mpr ⟨mt1 (List.mem_of_getElem? (i := 63) rfl), List.forall_mem_cons.mpr ⟨mt1 (List.mem_of_getElem? (i := 34) rfl), List.forall_mem_cons.mpr ⟨mt1 (List.mem_of_getElem? (i := 36) rfl), List.forall_mem_cons.mpr ⟨mt1 (List.mem_of_getElem? (i := 64) rfl), fun _ h => absurd h List.not_mem_nil⟩⟩⟩⟩⟩⟩⟩⟩⟩⟩⟩⟩⟩⟩⟩⟩⟩⟩⟩⟩⟩⟩⟩⟩
set_option maxRecDepth 20000 in
theorem lin_3 : ∀ w ∈ wsL_law_r3, w ∈ lw_tbl := List.forall_mem_cons.mpr ⟨mt1 (List.mem_of_getElem? (i := 37) rfl), List.forall_mem_cons.mpr ⟨mt1 (List.mem_of_getElem? (i := 40) rfl), List.forall_mem_cons.mpr ⟨mt1 (List.mem_of_getElem? (i := 30) rfl), List.forall_mem_cons.mpr ⟨mt1 (List.mem_of_getElem? (i := 31) rfl), List.forall_mem_cons.mpr ⟨mt1 (List.mem_of_getElem? (i := 32) rfl), List.forall_mem_cons.mpr ⟨mt1 (List.mem_of_getElem? (i := 33) rfl), List.forall_mem_cons.mpr ⟨mt1 (List.mem_of_getElem? (i := 41) rfl), List.forall_mem_cons.mpr ⟨mt1 (List.mem_of_getElem? (i := 46) rfl), List.forall_mem_cons.mpr ⟨mt1 (List.mem_of_getElem? (i := 67) rfl), List.forall_mem_cons.mpr ⟨mt1 (List.mem_of_getElem? (i := 68) rfl), List.forall_mem_cons.mpr ⟨mt1 (List.mem_of_getElem? (i := 69) rfl), List.forall_mem_cons.mpr ⟨mt1 (List.mem_of_getElem? (i := 70) rfl), List.forall_mem_cons.mpr ⟨mt1 (List.mem_of_getElem? (i := 72) rfl), List.forall_mem_cons.mpr ⟨mt1 (List.mem_of_getElem? (i := 78) rfl), List.forall_mem_cons.mpr ⟨mt1 (List.mem_of_getElem? (i := 71) rfl), List.forall_mem_cons.mpr ⟨mt1 (List.mem_of_getElem? (i := 90) rfl), List.forall_mem_cons.mpr ⟨mt1 (List.mem_of_getElem? (i := 91) rfl), List.forall_mem_cons.mpr ⟨mt1 (List.mem_of_getElem? (i := 92) rfl), List.forall_mem_cons.mpr ⟨mt1 (List.mem_of_getElem? (i := 93) rfl), List.forall_mem_cons.mpr ⟨mt1 (List.mem_of_getElem? (i := 95) rfl), List.forall_mem_cons.mpr ⟨mt1 (List.mem_of_getElem? (i := 94) rfl), List.forall_mem_cons.mpr ⟨mt1 (List.mem_of_getElem? (i := 103) rfl), List.forall_mem_cons.mpr ⟨mt1 (List.mem_of_getElem? (i := 104) rfl), List.forall_mem_cons.mpr ⟨mt1 (List.mem_of_getElem? (i := 105) rfl), fun _ h => absurd h List.not_mem_nil⟩⟩⟩⟩⟩⟩⟩⟩⟩⟩⟩⟩⟩⟩⟩⟩⟩⟩⟩⟩⟩⟩⟩⟩
set_option maxRecDepth 20000 in
theorem lin_4 : ∀ w ∈ wsL_law_r4, w ∈ lw_tbl := List.forall_mem_cons.mpr ⟨mt1 (List.mem_of_getElem? (i := 106) rfl), List.forall_mem_cons.mpr ⟨mt1 (List.mem_of_getElem? (i := 116) rfl), List.forall_mem_cons.mpr ⟨mt1 (List.mem_of_getElem? (i := 107) rfl), List.forall_mem_cons.mpr ⟨mt1 (List.mem_of_getElem? (i := 108) rfl), List.forall_mem_cons.mpr ⟨mt1 (List.mem_of_getElem? (i := 119) rfl), List.forall_mem_cons.mpr ⟨mt1 (List.mem_of_getElem? (i := 120) rfl), List.forall_mem_cons.mpr ⟨mt1 (List.mem_of_getElem? (i := 121) rfl), List.forall_mem_cons.mpr ⟨mt1 (List.mem_of_getElem? (i := 122) rfl), List.forall_mem_cons.mpr ⟨mt1 (List.mem_of_getElem? (i := 123) rfl), List.forall_mem_cons.mpr ⟨mt1 (List.mem_of_getElem? (i := 125) rfl), List.forall_mem_cons.mpr ⟨mt1 (List.mem_of_getElem? (i := 127) rfl), List.forall_mem_cons.mpr ⟨mt1 (List.mem_of_getElem? (i := 131) rfl), List.forall_mem_cons.mpr ⟨mt1 (List.mem_of_getElem? (i := 154) rfl), List.forall_mem_cons.mpr ⟨mt1 (List.mem_of_getElem? (i := 155) rfl), List.forall_mem_cons.mpr ⟨mt1 (List.mem_of_getElem? (i := 156) rfl), List.forall_mem_cons.mpr ⟨mt1 (List.mem_of_getElem? (i := 157) rfl), List.forall_mem_cons.mpr ⟨mt1 (List.mem_of_getElem? (i := 158) rfl), List.forall_mem_cons.mpr ⟨mt1 (List.mem_of_getElem? (i := 160) rfl), List.forall_mem_cons.mpr ⟨mt1 (List.mem_of_getElem? (i := 169) rfl), List.forall_mem_cons.mpr ⟨mt1 (List.mem_of_getElem? (i := 170) rfl), List.forall_mem_cons.mpr ⟨mt1 (List.mem_of_getElem? (i := 171) rfl), List.forall_mem_cons.mpr ⟨mt1 (List.mem_of_getElem? (i := 172) rfl), List.forall_mem_cons.mpr ⟨mt1 (List.mem_of_getElem? (i := 173) rfl), List.forall_mem_cons.mpr ⟨mt1 (List.mem_of_getElem? (i := 174) rfl), fun _ h => absurd h List.not_mem_nil⟩⟩⟩⟩⟩⟩⟩⟩⟩⟩⟩⟩⟩⟩⟩⟩⟩⟩⟩⟩⟩⟩⟩⟩
set_option maxRecDepth 20000 in
theorem lin_5 : ∀ w ∈ wsL_law_r5, w ∈ lw_tbl := List.forall_mem_cons.mpr ⟨mt1 (List.mem_of_getElem? (i := 175) rfl), List.forall_mem_cons.mpr ⟨mt1 (List.mem_of_getElem? (i := 176) rfl), List.forall_mem_cons.mpr ⟨mt3 (List.mem_of_getElem? (i := 166) rfl), List.forall_mem_cons.mpr ⟨mt3 (List.mem_of_getElem? (i := 167) rfl), List.forall_mem_cons.mpr ⟨mt3 (List.mem_of_getElem? (i := 168) rfl), List.forall_mem_cons.mpr ⟨mt3 (List.mem_of_getElem? (i := 169) rfl), List.forall_mem_cons.mpr ⟨mt3 (List.mem_of_getElem? (i := 171) rfl), List.forall_mem_cons.mpr ⟨mt3 (List.mem_of_getElem? (i := 172) rfl), List.forall_mem_cons.mpr ⟨mt3 (List.mem_of_getElem? (i := 173) rfl), List.forall_mem_cons.mpr ⟨mt3 (List.mem_of_getElem? (i := 177) rfl), List.forall_mem_cons.mpr ⟨mt3 (List.mem_of_getElem? (i := 179) rfl), List.forall_mem_cons.mpr ⟨mt3 (List.mem_of_getElem? (i := 181) rfl), List.forall_mem_cons.mpr ⟨mt3 (List.mem_of_getElem? (i := 182) rfl), List.forall_mem_cons.mpr ⟨mt3 (List.mem_of_getElem? (i := 189) rfl), List.forall_mem_cons.mpr ⟨mt3 (List.mem_of_getElem? (i := 170) rfl), List.forall_mem_cons.mpr ⟨mt1 (List.mem_of_getElem? (i := 214) rfl), List.forall_mem_cons.mpr ⟨mt1 (List.mem_of_getElem? (i := 215) rfl), List.forall_mem_cons.mpr ⟨mt1 (List.mem_of_getElem? (i := 216) rfl), List.forall_mem_cons.mpr ⟨mt1 (List.mem_of_getElem? (i := 217) rfl), List.forall_mem_cons.mpr ⟨mt1 (List.mem_of_getElem? (i := 43) rfl), List.forall_mem_cons.mpr ⟨mt1 (List.mem_of_getElem? (i := 218) rfl), List.forall_mem_cons.mpr ⟨mt1 (List.mem_of_getElem? (i := 219) rfl), List.forall_mem_cons.mpr ⟨mt1 (List.mem_of_getElem? (i := 220) rfl), List.forall_mem_cons.mpr ⟨mt1 (List.mem_of_getElem? (i := 221) rfl), fun _ h => absurd h List.not_mem_nil⟩⟩⟩⟩⟩⟩⟩⟩⟩⟩⟩⟩⟩⟩⟩⟩⟩⟩⟩⟩⟩⟩⟩⟩
set_option maxRecDepth 20000 in
theorem lin_6 : ∀ w ∈ wsL_law_r6, w ∈ lw_tbl := List.forall_mem_cons.mpr ⟨mt1 (List.mem_of_getElem? (i := 222) rfl), List.forall_mem_cons.mpr ⟨mt1 (List.mem_of_getElem? (i := 223) rfl), List.forall_mem_cons.mpr ⟨mt1 (List.mem_of_getElem? (i := 224) rfl), List.forall_mem_cons.mpr ⟨mt1 (List.mem_of_getElem? (i := 225) rfl), List.forall_mem_cons.mpr ⟨mt1 (List.mem_of_getElem? (i := 227) rfl), List.forall_mem_cons.mpr ⟨mt0 (List.mem_of_getElem? (i := 0) rfl), List.forall_mem_cons.mpr ⟨mt1 (List.mem_of_getElem? (i := 228) rfl), List.forall_mem_cons.mpr ⟨mt1 (List.mem_of_getElem? (i := 193) rfl), List.forall_mem_cons.mpr ⟨mt1 (List.mem_of_getElem? (i := 229) rfl), List.forall_mem_cons.mpr ⟨mt1 (List.mem_of_getElem? (i := 231) rfl), List.forall_mem_cons.mpr ⟨mt0 (List.mem_of_getElem? (i := 1) rfl), List.forall_mem_cons.mpr ⟨mt1 (List.mem_of_getElem? (i := 232) rfl), List.forall_mem_cons.mpr ⟨mt1 (List.mem_of_getElem? (i := 194) rfl), List.forall_mem_cons.mpr ⟨mt1 (List.mem_of_getElem? (i := 233) rfl), List.forall_mem_cons.mpr ⟨mt1 (List.mem_of_getElem? (i := 234) rfl), List.forall_mem_cons.mpr ⟨mt1 (List.mem_of_getElem? (i := 235) rfl), List.forall_mem_cons.mpr ⟨mt1 (List.mem_of_getElem? (i := 236) rfl), List.forall_mem_cons.mpr ⟨mt1 (List.mem_of_getElem? (i := 237) rfl), List.forall_mem_cons.mpr ⟨mt1 (List.mem_of_getElem? (i := 238) rfl), List.forall_mem_cons.mpr ⟨mt2 (List.mem_of_getElem? (i := 0) rfl), List.forall_mem_cons.mpr ⟨mt0 (List.mem_of_getElem? (i := 2) rfl), List.forall_mem_cons.mpr ⟨mt2 (List.mem_of_getElem? (i := 1) rfl), List.forall_mem_cons.mpr ⟨mt2 (List.mem_of_getElem? (i := 2) rfl), List.forall_mem_cons.mpr ⟨mt2 (List.mem_of_getElem? (i := 3) rfl), fun _ h => absurd h List.not_mem_nil⟩⟩⟩⟩⟩⟩⟩⟩⟩⟩⟩⟩⟩⟩⟩⟩⟩⟩⟩⟩⟩⟩⟩⟩
set_option maxRecDepth 20000 in
theorem lin_7 : ∀ w ∈ wsL_law_r7, w ∈ lw_tbl := List.forall_mem_cons.mpr ⟨mt2 (List.mem_of_getElem? (i := 4) rfl), List.forall_mem_cons.mpr ⟨mt2 (List.mem_of_getElem? (i := 5) rfl), List.forall_mem_cons.mpr ⟨mt3 (List.mem_of_getElem? (i := 236) rfl), List.forall_mem_cons.mpr ⟨mt3 (List.mem_of_getElem? (i := 237) rfl), List.forall_mem_cons.mpr ⟨mt3 (List.mem_of_getElem? (i := 238) rfl), List.forall_mem_cons.mpr ⟨mt3 (List.mem_of_getElem? (i := 239) rfl), List.forall_mem_cons.mpr ⟨mt4 (List.mem_of_getElem? (i := 7) rfl), List.forall_mem_cons.mpr ⟨mt4 (List.mem_of_getElem? (i := 0) rfl), List.forall_mem_cons.mpr ⟨mt4 (List.mem_of_getElem? (i := 2) rfl), List.forall_mem_cons.mpr ⟨mt0 (List.mem_of_getElem? (i := 24) rfl), List.forall_mem_cons.mpr ⟨mt4 (List.mem_of_getElem? (i := 3) rfl), List.forall_mem_cons.mpr ⟨mt4 (List.mem_of_getElem? (i := 4) rfl), List.forall_mem_cons.mpr ⟨mt4 (List.mem_of_getElem? (i := 5) rfl), List.forall_mem_cons.mpr ⟨mt4 (List.mem_of_getElem? (i := 6) rfl), List.forall_mem_cons.mpr ⟨mt4 (List.mem_of_getElem? (i := 8) rfl), List.forall_mem_cons.mpr ⟨mt4 (List.mem_of_getElem? (i := 10) rfl), List.forall_mem_cons.mpr ⟨mt0 (List.mem_of_getElem? (i := 25) rfl), List.forall_mem_cons.mpr ⟨mt4 (List.mem_of_getElem? (i := 11) rfl), List.forall_mem_cons.mpr ⟨mt3 (List.mem_of_getElem? (i := 174) rfl), List.forall_mem_cons.mpr ⟨mt4 (List.mem_of_getElem? (i := 12) rfl), List.forall_mem_cons.mpr ⟨mt4 (List.mem_of_getElem? (i := 14) rfl), List.forall_mem_cons.mpr ⟨mt0 (List.mem_of_getElem? (i := 26) rfl), List.forall_mem_cons.mpr ⟨mt4 (List.mem_of_getElem? (i := 15) rfl), List.forall_mem_cons.mpr ⟨mt3 (List.mem_of_getElem? (i := 175) rfl), fun _ h => absurd h List.not_mem_nil⟩⟩⟩⟩⟩⟩⟩⟩⟩⟩⟩⟩⟩⟩⟩⟩⟩⟩⟩⟩⟩⟩⟩⟩
set_option maxRecDepth 20000 in
theorem lin_8 : ∀ w ∈ wsL_law_r8, w ∈ lw_tbl := List.forall_mem_cons.mpr ⟨mt4 (List.mem_of_getElem? (i := 16) rfl), List.forall_mem_cons.mpr ⟨mt4 (List.mem_of_getElem? (i := 18) rfl), List.forall_mem_cons.mpr ⟨mt0 (List.mem_of_getElem? (i := 27) rfl), List.forall_mem_cons.mpr ⟨mt4 (List.mem_of_getElem? (i := 19) rfl), List.forall_mem_cons.mpr ⟨mt2 (List.mem_of_getElem? (i := 6) rfl), List.forall_mem_cons.mpr ⟨mt2 (List.mem_of_getElem? (i := 7) rfl), List.forall_mem_cons.mpr ⟨mt2 (List.mem_of_getElem? (i := 8) rfl), List.forall_mem_cons.mpr ⟨mt2 (List.mem_of_getElem? (i := 9) rfl), List.forall_mem_cons.mpr ⟨mt2 (List.mem_of_getElem? (i := 10) rfl), List.forall_mem_cons.mpr ⟨mt2 (List.mem_of_getElem? (i := 11) rfl), List.forall_mem_cons.mpr ⟨mt2 (List.mem_of_getElem? (i := 12) rfl), List.forall_mem_cons.mpr ⟨mt2 (List.mem_of_getElem? (i := 13) rfl), List.forall_mem_cons.mpr ⟨mt2 (List.mem_of_getElem? (i := 14) rfl), List.forall_mem_cons.mpr ⟨mt2 (List.mem_of_getElem? (i := 15) rfl), List.forall_mem_cons.mpr ⟨mt2 (List.mem_of_getElem? (i := 16) rfl), List.forall_mem_cons.mpr ⟨mt4 (List.mem_of_getElem? (i := 20) rfl), List.forall_mem_cons.mpr ⟨mt4 (List.mem_of_getElem? (i := 21) rfl), List.forall_mem_cons.mpr ⟨mt4 (List.mem_of_getElem? (i := 22) rfl), List.forall_mem_cons.mpr ⟨mt4 (List.mem_of_getElem? (i := 23) rfl), List.forall_mem_cons.mpr ⟨mt4 (List.mem_of_getElem? (i := 24) rfl), List.forall_mem_cons.mpr ⟨mt4 (List.mem_of_getElem? (i := 26) rfl), List.forall_mem_cons.mpr ⟨mt0 (List.mem_of_getElem? (i := 28) rfl), List.forall_mem_cons.mpr ⟨mt4 (List.mem_of_getElem? (i := 27) rfl), List.forall_mem_cons.mpr ⟨mt2 (List.mem_of_getElem? (i := 17) rfl), fun _ h => absurd h List.not_mem_nil⟩⟩⟩⟩⟩⟩⟩⟩⟩⟩⟩⟩⟩⟩⟩⟩⟩⟩⟩⟩⟩⟩⟩⟩
set_option maxRecDepth 20000 in
theorem lin_9 : ∀ w ∈ wsL_law_r9, w ∈ lw_tbl := List.forall_mem_cons.mpr ⟨mt2 (List.mem_of_getElem? (i := 18) rfl), List.forall_mem_cons.mpr ⟨mt2 (List.mem_of_getElem? (i := 19) rfl), List.forall_mem_cons.mpr ⟨mt2 (List.mem_of_getElem? (i := 20) rfl), List.forall_mem_cons.mpr ⟨mt2 (List.mem_of_getElem? (i := 21) rfl), List.forall_mem_cons.mpr ⟨mt2 (List.mem_of_getElem? (i := 22) rfl), List.forall_mem_cons.mpr ⟨mt2 (List.mem_of_getElem? (i := 23) rfl), List.forall_mem_cons.mpr ⟨mt2 (List.mem_of_getElem? (i := 24) rfl), List.forall_mem_cons.mpr ⟨mt4 (List.mem_of_getElem? (i := 28) rfl), List.forall_mem_cons.mpr ⟨mt4 (List.mem_of_getElem? (i := 29) rfl), List.forall_mem_cons.mpr ⟨mt4 (List.mem_of_getElem? (i := 30) rfl), List.forall_mem_cons.mpr ⟨mt4 (List.mem_of_getElem? (i := 31) rfl), List.forall_mem_cons.mpr ⟨mt4 (List.mem_of_getElem? (i := 32) rfl), List.forall_mem_cons.mpr ⟨mt4 (List.mem_of_getElem? (i := 34) rfl), List.forall_mem_cons.mpr ⟨mt0 (List.mem_of_getElem? (i := 29) rfl), List.forall_mem_cons.mpr ⟨mt4 (List.mem_of_getElem? (i := 35) rfl), List.forall_mem_cons.mpr ⟨mt2 (List.mem_of_getElem? (i := 25) rfl), List.forall_mem_cons.mpr ⟨mt2 (List.mem_of_getElem? (i := 26) rfl), List.forall_mem_cons.mpr ⟨mt2 (List.mem_of_getElem? (i := 27) rfl), List.forall_mem_cons.mpr ⟨mt2 (List.mem_of_getElem? (i := 28) rfl), List.forall_mem_cons.mpr ⟨mt2 (List.mem_of_getElem? (i := 29) rfl), List.forall_mem_cons.mpr ⟨mt4 (List.mem_of_getElem? (i := 36) rfl), List.forall_mem_cons.mpr ⟨mt4 (List.mem_of_getElem? (i := 37) rfl), List.forall_mem_cons.mpr ⟨mt4 (List.mem_of_getElem? (i := 38) rfl), List.forall_mem_cons.mpr ⟨mt4 (List.mem_of_getElem? (i := 39) rfl), fun _ h => absurd h List.not_mem_nil⟩⟩⟩⟩⟩⟩⟩⟩⟩⟩⟩⟩⟩⟩⟩⟩⟩⟩⟩⟩⟩⟩⟩⟩
set_option maxRecDepth 20000 in
theorem lin_10 : ∀ w ∈ wsL_law_r10, w ∈ lw_tbl := List.forall_mem_cons.mpr ⟨mt2 (List.mem_of_getElem? (i := 30) rfl), List.forall_mem_cons.mpr ⟨mt2 (List.mem_of_getElem? (i := 31) rfl), List.forall_mem_cons.mpr ⟨mt2 (List.mem_of_getElem? (i := 32) rfl), List.forall_mem_cons.mpr ⟨mt2 (List.mem_of_getElem? (i := 33) rfl), List.forall_mem_cons.mpr ⟨mt2 (List.mem_of_getElem? (i := 34) rfl), List.forall_mem_cons.mpr ⟨mt2 (List.mem_of_getElem? (i := 35) rfl), List.forall_mem_cons.mpr ⟨mt2 (List.mem_of_getElem? (i := 36) rfl), List.forall_mem_cons.mpr ⟨mt2 (List.mem_of_getElem? (i := 37) rfl), List.forall_mem_cons.mpr ⟨mt2 (List.mem_of_getElem? (i := 38) rfl), List.forall_mem_cons.mpr ⟨mt2 (List.mem_of_getElem? (i := 39) rfl), List.forall_mem_cons.mpr ⟨mt2 (List.mem_of_getElem? (i := 40) rfl), List.forall_mem_cons.mpr ⟨mt2 (List.mem_of_getElem? (i := 41) rfl), List.forall_mem_cons.mpr ⟨mt2 (List.mem_of_getElem? (i := 42) rfl), List.forall_mem_cons.mpr ⟨mt2 (List.mem_of_getElem? (i := 43) rfl), List.forall_mem_cons.mpr ⟨mt2 (List.mem_of_getElem? (i := 44) rfl), List.forall_mem_cons.mpr ⟨mt2 (List.mem_of_getElem? (i := 46) rfl), List.forall_mem_cons.mpr ⟨mt2 (List.mem_of_getElem? (i := 47) rfl), List.forall_mem_cons.mpr ⟨mt2 (List.mem_of_getElem? (i := 45) rfl), List.forall_mem_cons.mpr ⟨mt2 (List.mem_of_getElem? (i := 48) rfl), List.forall_mem_cons.mpr ⟨mt4 (List.mem_of_getElem? (i := 40) rfl), List.forall_mem_cons.mpr ⟨mt4 (List.mem_of_getElem? (i := 41) rfl), List.forall_mem_cons.mpr ⟨mt4 (List.mem_of_getElem? (i := 42) rfl), List.forall_mem_cons.mpr ⟨mt4 (List.mem_of_getElem? (i := 43) rfl), List.forall_mem_cons.mpr ⟨mt4 (List.mem_of_getElem? (i := 44) rfl), fun _ h => absurd h List.not_mem_nil⟩⟩⟩⟩⟩⟩⟩⟩⟩⟩⟩⟩⟩⟩⟩⟩⟩⟩⟩⟩⟩⟩⟩⟩
set_option maxRecDepth 20000 in
theorem lin_11 : ∀ w ∈ wsL_law_r11, w ∈ lw_tbl := List.forall_mem_cons.mpr ⟨mt4 (List.mem_of_getElem? (i := 45) rfl), List.forall_mem_cons.mpr ⟨mt4 (List.mem_of_getElem? (i := 47) rfl), List.forall_mem_cons.mpr ⟨mt4 (List.mem_of_getElem? (i := 48) rfl), List.forall_mem_cons.mpr ⟨mt4 (List.mem_of_getElem? (i := 49) rfl), List.forall_mem_cons.mpr ⟨mt4 (List.mem_of_getElem? (i := 50) rfl), List.forall_mem_cons.mpr ⟨mt4 (List.mem_of_getElem? (i := 51) rfl), List.forall_mem_cons.mpr ⟨mt4 (List.mem_of_getElem? (i := 52) rfl), List.forall_mem_cons.mpr ⟨mt4 (List.mem_of_getElem? (i := 53) rfl), List.forall_mem_cons.mpr ⟨mt4 (List.mem_of_getElem? (i := 46) rfl), List.forall_mem_cons.mpr ⟨mt2 (List.mem_of_getElem? (i := 49) rfl), List.forall_mem_cons.mpr ⟨mt2 (List.mem_of_getElem? (i := 50) rfl), List.forall_mem_cons.mpr ⟨mt2 (List.mem_of_getElem? (i := 51) rfl), List.forall_mem_cons.mpr ⟨mt2 (List.mem_of_getElem? (i := 52) rfl), List.forall_mem_cons.mpr ⟨mt2 (List.mem_of_getElem? (i := 53) rfl), List.forall_mem_cons.mpr ⟨mt2 (List.mem_of_getElem? (i := 54) rfl), List.forall_mem_cons.mpr ⟨mt2 (List.mem_of_getElem? (i := 55) rfl), List.forall_mem_cons.mpr ⟨mt2 (List.mem_of_getElem? (i := 56) rfl), List.forall_mem_cons.mpr ⟨mt2 (List.mem_of_getElem? (i := 57) rfl), List.forall_mem_cons.mpr ⟨mt2 (List.mem_of_getElem? (i := 59) rfl), List.forall_mem_cons.mpr ⟨mt0 (List.mem_of_getElem? (i := 3) rfl), List.forall_mem_cons.mpr ⟨mt2 (List.mem_of_getElem? (i := 60) rfl), List.forall_mem_cons.mpr ⟨mt4 (List.mem_of_getElem? (i := 54) rfl), List.forall_mem_cons.mpr ⟨mt4 (List.mem_of_getElem? (i := 55) rfl), List.forall_mem_cons.mpr ⟨mt4 (List.mem_of_getElem? (i := 56) rfl), fun _ h => absurd h List.not_mem_nil⟩⟩⟩⟩⟩⟩⟩⟩⟩⟩⟩⟩⟩⟩⟩⟩⟩⟩⟩⟩⟩⟩⟩⟩
set_option maxRecDepth 20000 in
theorem lin_12 : ∀ w ∈ wsL_law_r12, w ∈ lw_tbl := List.forall_mem_cons.mpr ⟨mt4 (List.mem_of_getElem? (i := 57) rfl), List.forall_mem_cons.mpr ⟨mt4 (List.mem_of_getElem? (i := 58) rfl), List.forall_mem_cons.mpr ⟨mt4 (List.mem_of_getElem? (i := 59) rfl), List.forall_mem_cons.mpr ⟨mt4 (List.mem_of_getElem? (i := 61) rfl), List.forall_mem_cons.mpr ⟨mt0 (List.mem_of_getElem? (i := 30) rfl), List.forall_mem_cons.mpr ⟨mt4 (List.mem_of_getElem? (i := 62) rfl), List.forall_mem_cons.mpr ⟨mt2 (List.mem_of_getElem? (i := 61) rfl), List.forall_mem_cons.mpr ⟨mt2 (List.mem_of_getElem? (i := 62) rfl), List.forall_mem_cons.mpr ⟨mt2 (List.mem_of_getElem? (i := 63) rfl), List.forall_mem_cons.mpr ⟨mt2 (List.mem_of_getElem? (i := 64) rfl), List.forall_mem_cons.mpr ⟨mt2 (List.mem_of_getElem? (i := 65) rfl), List.forall_mem_cons.mpr ⟨mt4 (List.mem_of_getElem? (i := 63) rfl), List.forall_mem_cons.mpr ⟨mt4 (List.mem_of_getElem? (i := 64) rfl), List.forall_mem_cons.mpr ⟨mt4 (List.mem_of_getElem? (i := 65) rfl), List.forall_mem_cons.mpr ⟨mt4 (List.mem_of_getElem? (i := 66) rfl), List.forall_mem_cons.mpr ⟨mt4 (List.mem_of_getElem? (i := 67) rfl), List.forall_mem_cons.mpr ⟨mt4 (List.mem_of_getElem? (i := 69) rfl), List.forall_mem_cons.mpr ⟨mt0 (List.mem_of_getElem? (i := 31) rfl), List.forall_mem_cons.mpr ⟨mt4 (List.mem_of_getElem? (i := 70) rfl), List.forall_mem_cons.mpr ⟨mt2 (List.mem_of_getElem? (i := 66) rfl), List.forall_mem_cons.mpr ⟨mt2 (List.mem_of_getElem? (i := 67) rfl), List.forall_mem_cons.mpr ⟨mt2 (List.mem_of_getElem? (i := 68) rfl), List.forall_mem_cons.mpr ⟨mt2 (List.mem_of_getElem? (i := 69) rfl), List.forall_mem_cons.mpr ⟨mt1 (List.mem_of_getElem? (i := 77) rfl), fun _ h => absurd h List.not_mem_nil⟩⟩⟩⟩⟩⟩⟩⟩⟩⟩⟩⟩⟩⟩⟩⟩⟩⟩⟩⟩⟩⟩⟩⟩
set_option maxRecDepth 20000 in
theorem lin_13 : ∀ w ∈ wsL_law_r13, w ∈ lw_tbl := List.forall_mem_cons.mpr ⟨mt1 (List.mem_of_getElem? (i := 74) rfl), List.forall_mem_cons.mpr ⟨mt2 (List.mem_of_getElem? (i := 70) rfl), List.forall_mem_cons.mpr ⟨mt2 (List.mem_of_getElem? (i := 72) rfl), List.forall_mem_cons.mpr ⟨mt0 (List.mem_of_getElem? (i := 4) rfl), List.forall_mem_cons.mpr ⟨mt2 (List.mem_of_getElem? (i := 73) rfl), List.forall_mem_cons.mpr ⟨mt2 (List.mem_of_getElem? (i := 74) rfl), List.forall_mem_cons.mpr ⟨mt2 (List.mem_of_getElem? (i := 75) rfl), List.forall_mem_cons.mpr ⟨mt2 (List.mem_of_getElem? (i := 76) rfl), List.forall_mem_cons.mpr ⟨mt2 (List.mem_of_getElem? (i := 77) rfl), List.forall_mem_cons.mpr ⟨mt1 (List.mem_of_getElem? (i := 35) rfl), List.forall_mem_cons.mpr ⟨mt1 (List.mem_of_getElem? (i := 75) rfl), List.forall_mem_cons.mpr ⟨mt4 (List.mem_of_getElem? (i := 71) rfl), List.forall_mem_cons.mpr ⟨mt4 (List.mem_of_getElem? (i := 72) rfl), List.forall_mem_cons.mpr ⟨mt4 (List.mem_of_getElem? (i := 73) rfl), List.forall_mem_cons.mpr ⟨mt4 (List.mem_of_getElem? (i := 74) rfl), List.forall_mem_cons.mpr ⟨mt3 (List.mem_of_getElem? (i := 180) rfl), List.forall_mem_cons.mpr ⟨mt4 (List.mem_of_getElem? (i := 75) rfl), List.forall_mem_cons.mpr ⟨mt4 (List.mem_of_getElem? (i := 77) rfl), List.forall_mem_cons.mpr ⟨mt0 (List.mem_of_getElem? (i := 32) rfl), List.forall_mem_cons.mpr ⟨mt4 (List.mem_of_getElem? (i := 78) rfl), List.forall_mem_cons.mpr ⟨mt2 (List.mem_of_getElem? (i := 78) rfl), List.forall_mem_cons.mpr ⟨mt2 (List.mem_of_getElem? (i := 79) rfl), List.forall_mem_cons.mpr ⟨mt2 (List.mem_of_getElem? (i := 80) rfl), List.forall_mem_cons.mpr ⟨mt2 (List.mem_of_getElem? (i := 81) rfl), fun _ h => absurd h List.not_mem_nil⟩⟩⟩⟩⟩⟩⟩⟩⟩⟩⟩⟩⟩⟩⟩⟩⟩⟩⟩⟩⟩⟩⟩⟩
set_option maxRecDepth 20000 in
theorem lin_14 : ∀ w ∈ wsL_law_r14, w ∈ lw_tbl := List.forall_mem_cons.mpr ⟨mt2 (List.mem_of_getElem? (i := 82) rfl), List.forall_mem_cons.mpr ⟨mt2 (List.mem_of_getElem? (i := 83) rfl), List.forall_mem_cons.mpr ⟨mt2 (List.mem_of_getElem? (i := 84) rfl), List.forall_mem_cons.mpr ⟨mt2 (List.mem_of_getElem? (i := 85) rfl), List.forall_mem_cons.mpr ⟨mt1 (List.mem_of_getElem? (i := 44) rfl), List.forall_mem_cons.mpr ⟨mt2 (List.mem_of_getElem? (i := 86) rfl), List.forall_mem_cons.mpr ⟨mt4 (List.mem_of_getElem? (i := 79) rfl), List.forall_mem_cons.mpr ⟨mt4 (List.mem_of_getElem? (i := 80) rfl), List.forall_mem_cons.mpr ⟨mt4 (List.mem_of_getElem? (i := 81) rfl), List.forall_mem_cons.mpr ⟨mt4 (List.mem_of_getElem? (i := 82) rfl), List.forall_mem_cons.mpr ⟨mt4 (List.mem_of_getElem? (i := 83) rfl), List.forall_mem_cons.mpr ⟨mt4 (List.mem_of_getElem? (i := 84) rfl), List.forall_mem_cons.mpr ⟨mt4 (List.mem_of_getElem? (i := 86) rfl), List.forall_mem_cons.mpr ⟨mt0 (List.mem_of_getElem? (i := 33) rfl), List.forall_mem_cons.mpr ⟨mt4 (List.mem_of_getElem? (i := 87) rfl), List.forall_mem_cons.mpr ⟨mt2 (List.mem_of_getElem? (i := 87) rfl), List.forall_mem_cons.mpr ⟨mt2 (List.mem_of_getElem? (i := 88) rfl), List.forall_mem_cons.mpr ⟨mt2 (List.mem_of_getElem? (i := 89) rfl), List.forall_mem_cons.mpr ⟨mt2 (List.mem_of_getElem? (i := 90) rfl), List.forall_mem_cons.mpr ⟨mt2 (List.mem_of_getElem? (i := 91) rfl), List.forall_mem_cons.mpr ⟨mt2 (List.mem_of_getElem? (i := 92) rfl), List.forall_mem_cons.mpr ⟨mt2 (List.mem_of_getElem? (i := 93) rfl), List.forall_mem_cons.mpr ⟨mt2 (List.mem_of_getElem? (i := 94) rfl), List.forall_mem_cons.mpr ⟨mt2 (List.mem_of_getElem? (i := 95) rfl), fun _ h => absurd h List.not_mem_nil⟩⟩⟩⟩⟩⟩⟩⟩⟩⟩⟩⟩⟩⟩⟩⟩⟩⟩⟩⟩⟩⟩⟩⟩
set_option maxRecDepth 20000 in
theorem lin_15 : ∀ w ∈ wsL_law_r15, w ∈ lw_tbl := List.forall_mem_cons.mpr ⟨mt2 (List.mem_of_getElem? (i := 97) rfl), List.forall_mem_cons.mpr ⟨mt0 (List.mem_of_getElem? (i := 5) rfl), List.forall_mem_cons.mpr ⟨mt2 (List.mem_of_getElem? (i := 98) rfl), List.forall_mem_cons.mpr ⟨mt2 (List.mem_of_getElem? (i := 99) rfl), List.forall_mem_cons.mpr ⟨mt2 (List.mem_of_getElem? (i := 101) rfl), List.forall_mem_cons.mpr ⟨mt0 (List.mem_of_getElem? (i := 6) rfl), List.forall_mem_cons.mpr ⟨mt2 (List.mem_of_getElem? (i := 102) rfl), List.forall_mem_cons.mpr ⟨mt2 (List.mem_of_getElem? (i := 103) rfl), List.forall_mem_cons.mpr ⟨mt2 (List.mem_of_getElem? (i := 105) rfl), List.forall_mem_cons.mpr ⟨mt0 (List.mem_of_getElem? (i := 7) rfl), List.forall_mem_cons.mpr ⟨mt2 (List.mem_of_getElem? (i := 106) rfl), List.forall_mem_cons.mpr ⟨mt2 (List.mem_of_getElem? (i := 107) rfl), List.forall_mem_cons.mpr ⟨mt2 (List.mem_of_getElem? (i := 108) rfl), List.forall_mem_cons.mpr ⟨mt1 (List.mem_of_getElem? (i := 10) rfl), List.forall_mem_cons.mpr ⟨mt2 (List.mem_of_getElem? (i := 109) rfl), List.forall_mem_cons.mpr ⟨mt2 (List.mem_of_getElem? (i := 110) rfl), List.forall_mem_cons.mpr ⟨mt2 (List.mem_of_getElem? (i := 112) rfl), List.forall_mem_cons.mpr ⟨mt0 (List.mem_of_getElem? (i := 8) rfl), List.forall_mem_cons.mpr ⟨mt2 (List.mem_of_getElem? (i := 113) rfl), List.forall_mem_cons.mpr ⟨mt2 (List.mem_of_getElem? (i := 114) rfl), List.forall_mem_cons.mpr ⟨mt2 (List.mem_of_getElem? (i := 116) rfl), List.forall_mem_cons.mpr ⟨mt0 (List.mem_of_getElem? (i := 9) rfl), List.forall_mem_cons.mpr ⟨mt2 (List.mem_of_getElem? (i := 117) rfl), List.forall_mem_cons.mpr ⟨mt4 (List.mem_of_getElem? (i := 88) rfl), fun _ h => absurd h List.not_mem_nil⟩⟩⟩⟩⟩⟩⟩⟩⟩⟩⟩⟩⟩⟩⟩⟩⟩⟩⟩⟩⟩⟩⟩⟩
set_option maxRecDepth 20000 in
theorem lin_16 : ∀ w ∈ wsL_law_r16, w ∈ lw_tbl := List.forall_mem_cons.mpr ⟨mt4 (List.mem_of_getElem? (i := 89) rfl), List.forall_mem_cons.mpr ⟨mt4 (List.mem_of_getElem? (i := 90) rfl), List.forall_mem_cons.mpr ⟨mt4 (List.mem_of_getElem? (i := 91) rfl), List.forall_mem_cons.mpr ⟨mt4 (List.mem_of_getElem? (i := 92) rfl), List.forall_mem_cons.mpr ⟨mt4 (List.mem_of_getElem? (i := 94) rfl), List.forall_mem_cons.mpr ⟨mt0 (List.mem_of_getElem? (i := 34) rfl), List.forall_mem_cons.mpr ⟨mt4 (List.mem_of_getElem? (i := 95) rfl), List.forall_mem_cons.mpr ⟨mt4 (List.mem_of_getElem? (i := 96) rfl), List.forall_mem_cons.mpr ⟨mt4 (List.mem_of_getElem? (i := 98) rfl), List.forall_mem_cons.mpr ⟨mt0 (List.mem_of_getElem? (i := 35) rfl), List.forall_mem_cons.mpr ⟨mt4 (List.mem_of_getElem? (i := 99) rfl), List.forall_mem_cons.mpr ⟨mt2 (List.mem_of_getElem? (i := 118) rfl), List.forall_mem_cons.mpr ⟨mt2 (List.mem_of_getElem? (i := 119) rfl), List.forall_mem_cons.mpr ⟨mt2 (List.mem_of_getElem? (i := 120) rfl), List.forall_mem_cons.mpr ⟨mt2 (List.mem_of_getElem? (i := 121) rfl), List.forall_mem_cons.mpr ⟨mt2 (List.mem_of_getElem? (i := 122) rfl), List.forall_mem_cons.mpr ⟨mt2 (List.mem_of_getElem? (i := 123) rfl), List.forall_mem_cons.mpr ⟨mt2 (List.mem_of_getElem? (i := 124) rfl), List.forall_mem_cons.mpr ⟨mt2 (List.mem_of_getElem? (i := 125) rfl), List.forall_mem_cons.mpr ⟨mt2 (List.mem_of_getElem? (i := 126) rfl), List.forall_mem_cons.mpr ⟨mt1 (List.mem_of_getElem? (i := 42) rfl), List.forall_mem_cons.mpr ⟨mt1 (List.mem_of_getElem? (i := 38) rfl), List.forall_mem_cons.mpr ⟨mt2 (List.mem_of_getElem? (i := 127) rfl), List.forall_mem_cons.mpr ⟨mt2 (List.mem_of_getElem? (i := 128) rfl), fun _ h => absurd h List.not_mem_nil⟩⟩⟩⟩⟩⟩⟩⟩⟩⟩⟩⟩⟩⟩⟩⟩⟩⟩⟩⟩⟩⟩⟩⟩
set_option maxRecDepth 20000 in
theorem lin_17 : ∀ w ∈ wsL_law_r17, w ∈ lw_tbl := List.forall_mem_cons.mpr ⟨mt2 (List.mem_of_getElem? (i := 130) rfl), List.forall_mem_cons.mpr ⟨mt0 (List.mem_of_getElem? (i := 10) rfl), List.forall_mem_cons.mpr ⟨mt2 (List.mem_of_getElem? (i := 131) rfl), List.forall_mem_cons.mpr ⟨mt4 (List.mem_of_getElem? (i := 100) rfl), List.forall_mem_cons.mpr ⟨mt4 (List.mem_of_getElem? (i := 101) rfl), List.forall_mem_cons.mpr ⟨mt4 (List.mem_of_getElem? (i := 102) rfl), List.forall_mem_cons.mpr ⟨mt4 (List.mem_of_getElem? (i := 103) rfl), List.forall_mem_cons.mpr ⟨mt4 (List.mem_of_getElem? (i := 104) rfl), List.forall_mem_cons.mpr ⟨mt4 (List.mem_of_getElem? (i := 106) rfl), List.forall_mem_cons.mpr ⟨mt0 (List.mem_of_getElem? (i := 36) rfl), List.forall_mem_cons.mpr ⟨mt4 (List.mem_of_getElem? (i := 107) rfl), List.forall_mem_cons.mpr ⟨mt2 (List.mem_of_getElem? (i := 132) rfl), List.forall_mem_cons.mpr ⟨mt2 (List.mem_of_getElem? (i := 133) rfl), List.forall_mem_cons.mpr ⟨mt2 (List.mem_of_getElem? (i := 134) rfl), List.forall_mem_cons.mpr ⟨mt2 (List.mem_of_getElem? (i := 135) rfl), List.forall_mem_cons.mpr ⟨mt2 (List.mem_of_getElem? (i := 136) rfl), List.forall_mem_cons.mpr ⟨mt2 (List.mem_of_getElem? (i := 137) rfl), List.forall_mem_cons.mpr ⟨mt2 (List.mem_of_getElem? (i := 138) rfl), List.forall_mem_cons.mpr ⟨mt2 (List.mem_of_getElem? (i := 139) rfl), List.forall_mem_cons.mpr ⟨mt2 (List.mem_of_getElem? (i := 140) rfl), List.forall_mem_cons.mpr ⟨mt2 (List.mem_of_getElem? (i := 142) rfl), List.forall_mem_cons.mpr ⟨mt0 (List.mem_of_getElem? (i := 11) rfl), List.forall_mem_cons.mpr ⟨mt2 (List.mem_of_getElem? (i := 143) rfl), List.forall_mem_cons.mpr ⟨mt4 (List.mem_of_getElem? (i := 108) rfl), fun _ h => absurd h List.not_mem_nil⟩⟩⟩⟩⟩⟩⟩⟩⟩⟩⟩⟩⟩⟩⟩⟩⟩⟩⟩⟩⟩⟩⟩⟩
set_option maxRecDepth 20000 in
theorem lin_18 : ∀ w ∈ wsL_law_r18, w ∈ lw_tbl := List.forall_mem_cons.mpr ⟨mt4 (List.mem_of_getElem? (i := 109) rfl), List.forall_mem_cons.mpr ⟨mt4 (List.mem_of_getElem? (i := 110) rfl), List.forall_mem_cons.mpr ⟨mt4 (List.mem_of_getElem? (i := 111) rfl), List.forall_mem_cons.mpr ⟨mt2 (List.mem_of_getElem? (i := 144) rfl), List.forall_mem_cons.mpr ⟨mt2 (List.mem_of_getElem? (i := 145) rfl), List.forall_mem_cons.mpr ⟨mt2 (List.mem_of_getElem? (i := 146) rfl), List.forall_mem_cons.mpr ⟨mt2 (List.mem_of_getElem? (i := 147) rfl), List.forall_mem_cons.mpr ⟨mt2 (List.mem_of_getElem? (i := 148) rfl), List.forall_mem_cons.mpr ⟨mt2 (List.mem_of_getElem? (i := 149) rfl), List.forall_mem_cons.mpr ⟨mt2 (List.mem_of_getElem? (i := 150) rfl), List.forall_mem_cons.mpr ⟨mt2 (List.mem_of_getElem? (i := 151) rfl), List.forall_mem_cons.mpr ⟨mt4 (List.mem_of_getElem? (i := 112) rfl), List.forall_mem_cons.mpr ⟨mt4 (List.mem_of_getElem? (i := 113) rfl), List.forall_mem_cons.mpr ⟨mt4 (List.mem_of_getElem? (i := 114) rfl), List.forall_mem_cons.mpr ⟨mt4 (List.mem_of_getElem? (i := 115) rfl), List.forall_mem_cons.mpr ⟨mt4 (List.mem_of_getElem? (i := 116) rfl), List.forall_mem_cons.mpr ⟨mt4 (List.mem_of_getElem? (i := 117) rfl), List.forall_mem_cons.mpr ⟨mt4 (List.mem_of_getElem? (i := 119) rfl), List.forall_mem_cons.mpr ⟨mt0 (List.mem_of_getElem? (i := 37) rfl), List.forall_mem_cons.mpr ⟨mt4 (List.mem_of_getElem? (i := 120) rfl), List.forall_mem_cons.mpr ⟨mt2 (List.mem_of_getElem? (i := 152) rfl), List.forall_mem_cons.mpr ⟨mt2 (List.mem_of_getElem? (i := 153) rfl), List.forall_mem_cons.mpr ⟨mt2 (List.mem_of_getElem? (i := 154) rfl), List.forall_mem_cons.mpr ⟨mt2 (List.mem_of_getElem? (i := 155) rfl), fun _ h => absurd h List.not_mem_nil⟩⟩⟩⟩⟩⟩⟩⟩⟩⟩⟩⟩⟩⟩⟩⟩⟩⟩⟩⟩⟩⟩⟩⟩
set_option maxRecDepth 20000 in
theorem lin_19 : ∀ w ∈ wsL_law_r19, w ∈ lw_tbl := List.forall_mem_cons.mpr ⟨mt2 (List.mem_of_getElem? (i := 156) rfl), List.forall_mem_cons.mpr ⟨mt2 (List.mem_of_getElem? (i := 157) rfl), List.forall_mem_cons.mpr ⟨mt2 (List.mem_of_getElem? (i := 158) rfl), List.forall_mem_cons.mpr ⟨mt2 (List.mem_of_getElem? (i := 159) rfl), List.forall_mem_cons.mpr ⟨mt4 (List.mem_of_getElem? (i := 121) rfl), List.forall_mem_cons.mpr ⟨mt4 (List.mem_of_getElem? (i := 122) rfl), List.forall_mem_cons.mpr ⟨mt4 (List.mem_of_getElem? (i := 123) rfl), List.forall_mem_cons.mpr ⟨mt4 (List.mem_of_getElem? (i := 124) rfl), List.forall_mem_cons.mpr ⟨mt4 (List.mem_of_getElem? (i := 125) rfl), List.forall_mem_cons.mpr ⟨mt4 (List.mem_of_getElem? (i := 127) rfl), List.forall_mem_cons.mpr ⟨mt0 (List.mem_of_getElem? (i := 38) rfl), List.forall_mem_cons.mpr ⟨mt4 (List.mem_of_getElem? (i := 128) rfl), List.forall_mem_cons.mpr ⟨mt2 (List.mem_of_getElem? (i := 160) rfl), List.forall_mem_cons.mpr ⟨mt2 (List.mem_of_getElem? (i := 161) rfl), List.forall_mem_cons.mpr ⟨mt2 (List.mem_of_getElem? (i := 162) rfl), List.forall_mem_cons.mpr ⟨mt2 (List.mem_of_getElem? (i := 163) rfl), List.forall_mem_cons.mpr ⟨mt2 (List.mem_of_getElem? (i := 164) rfl), List.forall_mem_cons.mpr ⟨mt2 (List.mem_of_getElem? (i := 165) rfl), List.forall_mem_cons.mpr ⟨mt2 (List.mem_of_getElem? (i := 166) rfl), List.forall_mem_cons.mpr ⟨mt2 (List.mem_of_getElem? (i := 167) rfl), List.forall_mem_cons.mpr ⟨mt1 (List.mem_of_getElem? (i := 48) rfl), List.forall_mem_cons.mpr ⟨mt2 (List.mem_of_getElem? (i := 168) rfl), List.forall_mem_cons.mpr ⟨mt2 (List.mem_of_getElem? (i := 170) rfl), List.forall_mem_cons.mpr ⟨mt0 (List.mem_of_getElem? (i := 12) rfl), fun _ h => absurd h List.not_mem_nil⟩⟩⟩⟩⟩⟩⟩⟩⟩⟩⟩⟩⟩⟩⟩⟩⟩⟩⟩⟩⟩⟩⟩⟩
set_option maxRecDepth 20000 in
theorem lin_20 : ∀ w ∈ wsL_law_r20, w ∈ lw_tbl := List.forall_mem_cons.mpr ⟨mt2 (List.mem_of_getElem? (i := 171) rfl), List.forall_mem_cons.mpr ⟨mt2 (List.mem_of_getElem? (i := 172) rfl), List.forall_mem_cons.mpr ⟨mt4 (List.mem_of_getElem? (i := 129) rfl), List.forall_mem_cons.mpr ⟨mt4 (List.mem_of_getElem? (i := 130) rfl), List.forall_mem_cons.mpr ⟨mt4 (List.mem_of_getElem? (i := 131) rfl), List.forall_mem_cons.mpr ⟨mt4 (List.mem_of_getElem? (i := 132) rfl), List.forall_mem_cons.mpr ⟨mt3 (List.mem_of_getElem? (i := 183) rfl), List.forall_mem_cons.mpr ⟨mt4 (List.mem_of_getElem? (i := 133) rfl), List.forall_mem_cons.mpr ⟨mt4 (List.mem_of_getElem? (i := 135) rfl), List.forall_mem_cons.mpr ⟨mt0 (List.mem_of_getElem? (i := 39) rfl), List.forall_mem_cons.mpr ⟨mt4 (List.mem_of_getElem? (i := 136) rfl), List.forall_mem_cons.mpr ⟨mt2 (List.mem_of_getElem? (i := 173) rfl), List.forall_mem_cons.mpr ⟨mt2 (List.mem_of_getElem? (i := 174) rfl), List.forall_mem_cons.mpr ⟨mt2 (List.mem_of_getElem? (i := 175) rfl), List.forall_mem_cons.mpr ⟨mt2 (List.mem_of_getElem? (i := 176) rfl), List.forall_mem_cons.mpr ⟨mt2 (List.mem_of_getElem? (i := 177) rfl), List.forall_mem_cons.mpr ⟨mt2 (List.mem_of_getElem? (i := 178) rfl), List.forall_mem_cons.mpr ⟨mt2 (List.mem_of_getElem? (i := 179) rfl), List.forall_mem_cons.mpr ⟨mt2 (List.mem_of_getElem? (i := 180) rfl), List.forall_mem_cons.mpr ⟨mt2 (List.mem_of_getElem? (i := 181) rfl), List.forall_mem_cons.mpr ⟨mt2 (List.mem_of_getElem? (i := 183) rfl), List.forall_mem_cons.mpr ⟨mt0 (List.mem_of_getElem? (i := 13) rfl), List.forall_mem_cons.mpr ⟨mt2 (List.mem_of_getElem? (i := 184) rfl), List.forall_mem_cons.mpr ⟨mt2 (List.mem_of_getElem? (i := 185) rfl), fun _ h => absurd h List.not_mem_nil⟩⟩⟩⟩⟩⟩⟩⟩⟩⟩⟩⟩⟩⟩⟩⟩⟩⟩⟩⟩⟩⟩⟩⟩
set_option maxRecDepth 20000 in
theorem lin_21 : ∀ w ∈ wsL_law_r21, w ∈ lw_tbl := List.forall_mem_cons.mpr ⟨mt2 (List.mem_of_getElem? (i := 186) rfl), List.forall_mem_cons.mpr ⟨mt2 (List.mem_of_getElem? (i := 187) rfl), List.forall_mem_cons.mpr ⟨mt2 (List.mem_of_getElem? (i := 188) rfl), List.forall_mem_cons.mpr ⟨mt4 (List.mem_of_getElem? (i := 137) rfl), List.forall_mem_cons.mpr ⟨mt4 (List.mem_of_getElem? (i := 138) rfl), List.forall_mem_cons.mpr ⟨mt4 (List.mem_of_getElem? (i := 139) rfl), List.forall_mem_cons.mpr ⟨mt4 (List.mem_of_getElem? (i := 140) rfl), List.forall_mem_cons.mpr ⟨mt2 (List.mem_of_getElem? (i := 189) rfl), List.forall_mem_cons.mpr ⟨mt2 (List.mem_of_getElem? (i := 190) rfl), List.forall_mem_cons.mpr ⟨mt2 (List.mem_of_getElem? (i := 191) rfl), List.forall_mem_cons.mpr ⟨mt2 (List.mem_of_getElem? (i := 192) rfl), List.forall_mem_cons.mpr ⟨mt2 (List.mem_of_getElem? (i := 193) rfl), List.forall_mem_cons.mpr ⟨mt2 (List.mem_of_getElem? (i := 194) rfl), List.forall_mem_cons.mpr ⟨mt2 (List.mem_of_getElem? (i := 195) rfl), List.forall_mem_cons.mpr ⟨mt2 (List.mem_of_getElem? (i := 196) rfl), List.forall_mem_cons.mpr ⟨mt4 (List.mem_of_getElem? (i := 141) rfl), List.forall_mem_cons.mpr ⟨mt4 (List.mem_of_getElem? (i := 142) rfl), List.forall_mem_cons.mpr ⟨mt4 (List.mem_of_getElem? (i := 143) rfl), List.forall_mem_cons.mpr ⟨mt4 (List.mem_of_getElem? (i := 144) rfl), List.forall_mem_cons.mpr ⟨mt2 (List.mem_of_getElem? (i := 197) rfl), List.forall_mem_cons.mpr ⟨mt2 (List.mem_of_getElem? (i := 198) rfl), List.forall_mem_cons.mpr ⟨mt2 (List.mem_of_getElem? (i := 199) rfl), List.forall_mem_cons.mpr ⟨mt2 (List.mem_of_getElem? (i := 200) rfl), List.forall_mem_cons.mpr ⟨mt2 (List.mem_of_getElem? (i := 201) rfl), fun _ h => absurd h List.not_mem_nil⟩⟩⟩⟩⟩⟩⟩⟩⟩⟩⟩⟩⟩⟩⟩⟩⟩⟩⟩⟩⟩⟩⟩⟩
set_option maxRecDepth 20000 in
theorem lin_22 : ∀ w ∈ wsL_law_r22, w ∈ lw_tbl := List.forall_mem_cons.mpr ⟨mt2 (List.mem_of_getElem? (i := 202) rfl), List.forall_mem_cons.mpr ⟨mt2 (List.mem_of_getElem? (i := 203) rfl), List.forall_mem_cons.mpr ⟨mt2 (List.mem_of_getElem? (i := 204) rfl), List.forall_mem_cons.mpr ⟨mt4 (List.mem_of_getElem? (i := 145) rfl), List.forall_mem_cons.mpr ⟨mt4 (List.mem_of_getElem? (i := 146) rfl), List.forall_mem_cons.mpr ⟨mt4 (List.mem_of_getElem? (i := 147) rfl), List.forall_mem_cons.mpr ⟨mt4 (List.mem_of_getElem? (i := 148) rfl), List.forall_mem_cons.mpr ⟨mt2 (List.mem_of_getElem? (i := 205) rfl), List.forall_mem_cons.mpr ⟨mt2 (List.mem_of_getElem? (i := 206) rfl), List.forall_mem_cons.mpr ⟨mt2 (List.mem_of_getElem? (i := 207) rfl), List.forall_mem_cons.mpr ⟨mt2 (List.mem_of_getElem? (i := 208) rfl), List.forall_mem_cons.mpr ⟨mt1 (List.mem_of_getElem? (i := 110) rfl), List.forall_mem_cons.mpr ⟨mt2 (List.mem_of_getElem? (i := 209) rfl), List.forall_mem_cons.mpr ⟨mt2 (List.mem_of_getElem? (i := 210) rfl), List.forall_mem_cons.mpr ⟨mt2 (List.mem_of_getElem? (i := 211) rfl), List.forall_mem_cons.mpr ⟨mt2 (List.mem_of_getElem? (i := 212) rfl), List.forall_mem_cons.mpr ⟨mt4 (List.mem_of_getElem? (i := 149) rfl), List.forall_mem_cons.mpr ⟨mt4 (List.mem_of_getElem? (i := 150) rfl), List.forall_mem_cons.mpr ⟨mt4 (List.mem_of_getElem? (i := 151) rfl), List.forall_mem_cons.mpr ⟨mt4 (List.mem_of_getElem? (i := 152) rfl), List.forall_mem_cons.mpr ⟨mt4 (List.mem_of_getElem? (i := 153) rfl), List.forall_mem_cons.mpr ⟨mt3 (List.mem_of_getElem? (i := 176) rfl), List.forall_mem_cons.mpr ⟨mt2 (List.mem_of_getElem? (i := 213) rfl), List.forall_mem_cons.mpr ⟨mt2 (List.mem_of_getElem? (i := 214) rfl), fun _ h => absurd h List.not_mem_nil⟩⟩⟩⟩⟩⟩⟩⟩⟩⟩⟩⟩⟩⟩⟩⟩⟩⟩⟩⟩⟩⟩⟩⟩
set_option maxRecDepth 20000 in
theorem lin_23 : ∀ w ∈ wsL_law_r23, w ∈ lw_tbl := List.forall_mem_cons.mpr ⟨mt2 (List.mem_of_getElem? (i := 215) rfl), List.forall_mem_cons.mpr ⟨mt2 (List.mem_of_getElem? (i := 216) rfl), List.forall_mem_cons.mpr ⟨mt2 (List.mem_of_getElem? (i := 217) rfl), List.forall_mem_cons.mpr ⟨mt2 (List.mem_of_getElem? (i := 218) rfl), List.forall_mem_cons.mpr ⟨mt2 (List.mem_of_getElem? (i := 219) rfl), List.forall_mem_cons.mpr ⟨mt2 (List.mem_of_getElem? (i := 220) rfl), List.forall_mem_cons.mpr ⟨mt4 (List.mem_of_getElem? (i := 154) rfl), List.forall_mem_cons.mpr ⟨mt4 (List.mem_of_getElem? (i := 155) rfl), List.forall_mem_cons.mpr ⟨mt4 (List.mem_of_getElem? (i := 156) rfl), List.forall_mem_cons.mpr ⟨mt4 (List.mem_of_getElem? (i := 157) rfl), List.forall_mem_cons.mpr ⟨mt2 (List.mem_of_getElem? (i := 221) rfl), List.forall_mem_cons.mpr ⟨mt2 (List.mem_of_getElem? (i := 222) rfl), List.forall_mem_cons.mpr ⟨mt2 (List.mem_of_getElem? (i := 223) rfl), List.forall_mem_cons.mpr ⟨mt2 (List.mem_of_getElem? (i := 224) rfl), List.forall_mem_cons.mpr ⟨mt1 (List.mem_of_getElem? (i := 130) rfl), List.forall_mem_cons.mpr ⟨mt1 (List.mem_of_getElem? (i := 124) rfl), List.forall_mem_cons.mpr ⟨mt1 (List.mem_of_getElem? (i := 126) rfl), List.forall_mem_cons.mpr ⟨mt1 (List.mem_of_getElem? (i := 128) rfl), List.forall_mem_cons.mpr ⟨mt2 (List.mem_of_getElem? (i := 225) rfl), List.forall_mem_cons.mpr ⟨mt2 (List.mem_of_getElem? (i := 226) rfl), List.forall_mem_cons.mpr ⟨mt2 (List.mem_of_getElem? (i := 227) rfl), List.forall_mem_cons.mpr ⟨mt2 (List.mem_of_getElem? (i := 228) rfl), List.forall_mem_cons.mpr ⟨mt1 (List.mem_of_getElem? (i := 129) rfl), List.forall_mem_cons.mpr ⟨mt1 (List.mem_of_getElem? (i := 132) rfl), fun _ h => absurd h List.not_mem_nil⟩⟩⟩⟩⟩⟩⟩⟩⟩⟩⟩⟩⟩⟩⟩⟩⟩⟩⟩⟩⟩⟩⟩⟩
set_option maxRecDepth 20000 in
theorem lin_24 : ∀ w ∈ wsL_law_r24, w ∈ lw_tbl := List.forall_mem_cons.mpr ⟨mt1 (List.mem_of_getElem? (i := 133) rfl), List.forall_mem_cons.mpr ⟨mt1 (List.mem_of_getElem? (i := 134) rfl), List.forall_mem_cons.mpr ⟨mt1 (List.mem_of_getElem? (i := 109) rfl), List.forall_mem_cons.mpr ⟨mt2 (List.mem_of_getElem? (i := 229) rfl), List.forall_mem_cons.mpr ⟨mt2 (List.mem_of_getElem? (i := 231) rfl), List.forall_mem_cons.mpr ⟨mt0 (List.mem_of_getElem? (i := 14) rfl), List.forall_mem_cons.mpr ⟨mt2 (List.mem_of_getElem? (i := 232) rfl), List.forall_mem_cons.mpr ⟨mt2 (List.mem_of_getElem? (i := 233) rfl), List.forall_mem_cons.mpr ⟨mt2 (List.mem_of_getElem? (i := 235) rfl), List.forall_mem_cons.mpr ⟨mt0 (List.mem_of_getElem? (i := 15) rfl), List.forall_mem_cons.mpr ⟨mt2 (List.mem_of_getElem? (i := 236) rfl), List.forall_mem_cons.mpr ⟨mt2 (List.mem_of_getElem? (i := 237) rfl), List.forall_mem_cons.mpr ⟨mt2 (List.mem_of_getElem? (i := 239) rfl), List.forall_mem_cons.mpr ⟨mt0 (List.mem_of_getElem? (i := 16) rfl), List.forall_mem_cons.mpr ⟨mt3 (List.mem_of_getElem? (i := 0) rfl), List.forall_mem_cons.mpr ⟨mt3 (List.mem_of_getElem? (i := 1) rfl), List.forall_mem_cons.mpr ⟨mt3 (List.mem_of_getElem? (i := 2) rfl), List.forall_mem_cons.mpr ⟨mt3 (List.mem_of_getElem? (i := 3) rfl), List.forall_mem_cons.mpr ⟨mt3 (List.mem_of_getElem? (i := 4) rfl), List.forall_mem_cons.mpr ⟨mt3 (List.mem_of_getElem? (i := 5) rfl), List.forall_mem_cons.mpr ⟨mt3 (List.mem_of_getElem? (i := 6) rfl), List.forall_mem_cons.mpr ⟨mt3 (List.mem_of_getElem? (i := 7) rfl), List.forall_mem_cons.mpr ⟨mt3 (List.mem_of_getElem? (i := 8) rfl), List.forall_mem_cons.mpr ⟨mt3 (List.mem_of_getElem? (i := 9) rfl), fun _ h => absurd h List.not_mem_nil⟩⟩⟩⟩⟩⟩⟩⟩⟩⟩⟩⟩⟩⟩⟩⟩⟩⟩⟩⟩⟩⟩⟩⟩
set_option maxRecDepth 20000 in
theorem lin_25 : ∀ w ∈ wsL_law_r25, w ∈ lw_tbl := List.forall_mem_cons.mpr ⟨mt3 (List.mem_of_getElem? (i := 10) rfl), List.forall_mem_cons.mpr ⟨mt3 (List.mem_of_getElem? (i := 11) rfl), List.forall_mem_cons.mpr ⟨mt1 (List.mem_of_getElem? (i := 11) rfl), List.forall_mem_cons.mpr ⟨mt3 (List.mem_of_getElem? (i := 12) rfl), List.forall_mem_cons.mpr ⟨mt3 (List.mem_of_getElem? (i := 13) rfl), List.forall_mem_cons.mpr ⟨mt3 (List.mem_of_getElem? (i := 14) rfl), List.forall_mem_cons.mpr ⟨mt3 (List.mem_of_getElem? (i := 15) rfl), List.forall_mem_cons.mpr ⟨mt3 (List.mem_of_getElem? (i := 26) rfl), List.forall_mem_cons.mpr ⟨mt3 (List.mem_of_getElem? (i := 27) rfl), List.forall_mem_cons.mpr ⟨mt3 (List.mem_of_getElem? (i := 28) rfl), List.forall_mem_cons.mpr ⟨mt3 (List.mem_of_getElem? (i := 29) rfl), List.forall_mem_cons.mpr ⟨mt3 (List.mem_of_getElem? (i := 30) rfl), List.forall_mem_cons.mpr ⟨mt3 (List.mem_of_getElem? (i := 31) rfl), List.forall_mem_cons.mpr ⟨mt3 (List.mem_of_getElem? (i := 32) rfl), List.forall_mem_cons.mpr ⟨mt1 (List.mem_of_getElem? (i := 12) rfl), List.forall_mem_cons.mpr ⟨mt3 (List.mem_of_getElem? (i := 33) rfl), List.forall_mem_cons.mpr ⟨mt5 (List.mem_of_getElem? (i := 1) rfl), List.forall_mem_cons.mpr ⟨mt3 (List.mem_of_getElem? (i := 34) rfl), List.forall_mem_cons.mpr ⟨mt3 (List.mem_of_getElem? (i := 35) rfl), List.forall_mem_cons.mpr ⟨mt3 (List.mem_of_getElem? (i := 36) rfl), List.forall_mem_cons.mpr ⟨mt3 (List.mem_of_getElem? (i := 37) rfl), List.forall_mem_cons.mpr ⟨mt3 (List.mem_of_getElem? (i := 38) rfl), List.forall_mem_cons.mpr ⟨mt5 (List.mem_of_getElem? (i := 2) rfl), List.forall_mem_cons.mpr ⟨mt3 (List.mem_of_getElem? (i := 40) rfl), fun _ h => absurd h List.not_mem_nil⟩⟩⟩⟩⟩⟩⟩⟩⟩⟩⟩⟩⟩⟩⟩⟩⟩⟩⟩⟩⟩⟩⟩⟩
set_option maxRecDepth 20000 in
theorem lin_26 : ∀ w ∈ wsL_law_r26, w ∈ lw_tbl := List.forall_mem_cons.mpr ⟨mt3 (List.mem_of_getElem? (i := 41) rfl), List.forall_mem_cons.mpr ⟨mt3 (List.mem_of_getElem? (i := 42) rfl), List.forall_mem_cons.mpr ⟨mt3 (List.mem_of_getElem? (i := 43) rfl), List.forall_mem_cons.mpr ⟨mt3 (List.mem_of_getElem? (i := 44) rfl), List.forall_mem_cons.mpr ⟨mt3 (List.mem_of_getElem? (i := 45) rfl), List.forall_mem_cons.mpr ⟨mt3 (List.mem_of_getElem? (i := 46) rfl), List.forall_mem_cons.mpr ⟨mt3 (List.mem_of_getElem? (i := 47) rfl), List.forall_mem_cons.mpr ⟨mt3 (List.mem_of_getElem? (i := 48) rfl), List.forall_mem_cons.mpr ⟨mt3 (List.mem_of_getElem? (i := 49) rfl), List.forall_mem_cons.mpr ⟨mt1 (List.mem_of_getElem? (i := 13) rfl), List.forall_mem_cons.mpr ⟨mt3 (List.mem_of_getElem? (i := 50) rfl), List.forall_mem_cons.mpr ⟨mt3 (List.mem_of_getElem? (i := 51) rfl), List.forall_mem_cons.mpr ⟨mt3 (List.mem_of_getElem? (i := 52) rfl), List.forall_mem_cons.mpr ⟨mt3 (List.mem_of_getElem? (i := 53) rfl), List.forall_mem_cons.mpr ⟨mt3 (List.mem_of_getElem? (i := 54) rfl), List.forall_mem_cons.mpr ⟨mt3 (List.mem_of_getElem? (i := 56) rfl), List.forall_mem_cons.mpr ⟨mt3 (List.mem_of_getElem? (i := 57) rfl), List.forall_mem_cons.mpr ⟨mt1 (List.mem_of_getElem? (i := 14) rfl), List.forall_mem_cons.mpr ⟨mt3 (List.mem_of_getElem? (i := 58) rfl), List.forall_mem_cons.mpr ⟨mt3 (List.mem_of_getElem? (i := 59) rfl), List.forall_mem_cons.mpr ⟨mt3 (List.mem_of_getElem? (i := 60) rfl), List.forall_mem_cons.mpr ⟨mt1 (List.mem_of_getElem? (i := 15) rfl), List.forall_mem_cons.mpr ⟨mt3 (List.mem_of_getElem? (i := 61) rfl), List.forall_mem_cons.mpr ⟨mt3 (List.mem_of_getElem? (i := 62) rfl), fun _ h => absurd h List.not_mem_nil⟩⟩⟩⟩⟩⟩⟩⟩⟩⟩⟩⟩⟩⟩⟩⟩⟩⟩⟩⟩⟩⟩⟩⟩
set_option maxRecDepth 20000 in
theorem lin_27 : ∀ w ∈ wsL_law_r27, w ∈ lw_tbl := List.forall_mem_cons.mpr ⟨mt3 (List.mem_of_getElem? (i := 63) rfl), List.forall_mem_cons.mpr ⟨mt3 (List.mem_of_getElem? (i := 64) rfl), List.forall_mem_cons.mpr ⟨mt3 (List.mem_of_getElem? (i := 65) rfl), List.forall_mem_cons.mpr ⟨mt3 (List.mem_of_getElem? (i := 66) rfl), List.forall_mem_cons.mpr ⟨mt3 (List.mem_of_getElem? (i := 67) rfl), List.forall_mem_cons.mpr ⟨mt3 (List.mem_of_getElem? (i := 68) rfl), List.forall_mem_cons.mpr ⟨mt3 (List.mem_of_getElem? (i := 69) rfl), List.forall_mem_cons.mpr ⟨mt3 (List.mem_of_getElem? (i := 70) rfl), List.forall_mem_cons.mpr ⟨mt3 (List.mem_of_getElem? (i := 71) rfl), List.forall_mem_cons.mpr ⟨mt3 (List.mem_of_getElem? (i := 72) rfl), List.forall_mem_cons.mpr ⟨mt3 (List.mem_of_getElem? (i := 74) rfl), List.forall_mem_cons.mpr ⟨mt3 (List.mem_of_getElem? (i := 76) rfl), List.forall_mem_cons.mpr ⟨mt3 (List.mem_of_getElem? (i := 78) rfl), List.forall_mem_cons.mpr ⟨mt3 (List.mem_of_getElem? (i := 79) rfl), List.forall_mem_cons.mpr ⟨mt3 (List.mem_of_getElem? (i := 80) rfl), List.forall_mem_cons.mpr ⟨mt3 (List.mem_of_getElem? (i := 81) rfl), List.forall_mem_cons.mpr ⟨mt3 (List.mem_of_getElem? (i := 83) rfl), List.forall_mem_cons.mpr ⟨mt3 (List.mem_of_getElem? (i := 85) rfl), List.forall_mem_cons.mpr ⟨mt0 (List.mem_of_getElem? (i := 17) rfl), List.forall_mem_cons.mpr ⟨mt3 (List.mem_of_getElem? (i := 86) rfl), List.forall_mem_cons.mpr ⟨mt3 (List.mem_of_getElem? (i := 87) rfl), List.forall_mem_cons.mpr ⟨mt3 (List.mem_of_getElem? (i := 88) rfl), List.forall_mem_cons.mpr ⟨mt3 (List.mem_of_getElem? (i := 89) rfl), List.forall_mem_cons.mpr ⟨mt3 (List.mem_of_getElem? (i := 90) rfl), fun _ h => absurd h List.not_mem_nil⟩⟩⟩⟩⟩⟩⟩⟩⟩⟩⟩⟩⟩⟩⟩⟩⟩⟩⟩⟩⟩⟩⟩⟩
set_option maxRecDepth 20000 in
theorem lin_28 : ∀ w ∈ wsL_law_r28, w ∈ lw_tbl := List.forall_mem_cons.mpr ⟨mt3 (List.mem_of_getElem? (i := 91) rfl), List.forall_mem_cons.mpr ⟨mt3 (List.mem_of_getElem? (i := 92) rfl), List.forall_mem_cons.mpr ⟨mt3 (List.mem_of_getElem? (i := 93) rfl), List.forall_mem_cons.mpr ⟨mt3 (List.mem_of_getElem? (i := 95) rfl), List.forall_mem_cons.mpr ⟨mt3 (List.mem_of_getElem? (i := 96) rfl), List.forall_mem_cons.mpr ⟨mt3 (List.mem_of_getElem? (i := 97) rfl), List.forall_mem_cons.mpr ⟨mt3 (List.mem_of_getElem? (i := 98) rfl), List.forall_mem_cons.mpr ⟨mt3 (List.mem_of_getElem? (i := 100) rfl), List.forall_mem_cons.mpr ⟨mt3 (List.mem_of_getElem? (i := 102) rfl), List.forall_mem_cons.mpr ⟨mt0 (List.mem_of_getElem? (i := 18) rfl), List.forall_mem_cons.mpr ⟨mt3 (List.mem_of_getElem? (i := 103) rfl), List.forall_mem_cons.mpr ⟨mt3 (List.mem_of_getElem? (i := 104) rfl), List.forall_mem_cons.mpr ⟨mt3 (List.mem_of_getElem? (i := 106) rfl), List.forall_mem_cons.mpr ⟨mt0 (List.mem_of_getElem? (i := 19) rfl), List.forall_mem_cons.mpr ⟨mt3 (List.mem_of_getElem? (i := 107) rfl), List.forall_mem_cons.mpr ⟨mt3 (List.mem_of_getElem? (i := 108) rfl), List.forall_mem_cons.mpr ⟨mt3 (List.mem_of_getElem? (i := 109) rfl), List.forall_mem_cons.mpr ⟨mt3 (List.mem_of_getElem? (i := 110) rfl), List.forall_mem_cons.mpr ⟨mt3 (List.mem_of_getElem? (i := 111) rfl), List.forall_mem_cons.mpr ⟨mt3 (List.mem_of_getElem? (i := 112) rfl), List.forall_mem_cons.mpr ⟨mt3 (List.mem_of_getElem? (i := 113) rfl), List.forall_mem_cons.mpr ⟨mt3 (List.mem_of_getElem? (i := 114) rfl), List.forall_mem_cons.mpr ⟨mt3 (List.mem_of_getElem? (i := 115) rfl), List.forall_mem_cons.mpr ⟨mt3 (List.mem_of_getElem? (i := 116) rfl), fun _ h => absurd h List.not_mem_nil⟩⟩⟩⟩⟩⟩⟩⟩⟩⟩⟩⟩⟩⟩⟩⟩⟩⟩⟩⟩⟩⟩⟩⟩
set_option maxRecDepth 20000 in
theorem lin_29 : ∀ w ∈ wsL_law_r29, w ∈ lw_tbl := List.forall_mem_cons.mpr ⟨mt3 (List.mem_of_getElem? (i := 117) rfl), List.forall_mem_cons.mpr ⟨mt3 (List.mem_of_getElem? (i := 118) rfl), List.forall_mem_cons.mpr ⟨mt3 (List.mem_of_getElem? (i := 119) rfl), List.forall_mem_cons.mpr ⟨mt3 (List.mem_of_getElem? (i := 120) rfl), List.forall_mem_cons.mpr ⟨mt3 (List.mem_of_getElem? (i := 121) rfl), List.forall_mem_cons.mpr ⟨mt3 (List.mem_of_getElem? (i := 122) rfl), List.forall_mem_cons.mpr ⟨mt3 (List.mem_of_getElem? (i := 123) rfl), List.forall_mem_cons.mpr ⟨mt3 (List.mem_of_getElem? (i := 124) rfl), List.forall_mem_cons.mpr ⟨mt3 (List.mem_of_getElem? (i := 125) rfl), List.forall_mem_cons.mpr ⟨mt3 (List.mem_of_getElem? (i := 126) rfl), List.forall_mem_cons.mpr ⟨mt3 (List.mem_of_getElem? (i := 127) rfl), List.forall_mem_cons.mpr ⟨mt3 (List.mem_of_getElem? (i := 128) rfl), List.forall_mem_cons.mpr ⟨mt3 (List.mem_of_getElem? (i := 130) rfl), List.forall_mem_cons.mpr ⟨mt0 (List.mem_of_getElem? (i := 20) rfl), List.forall_mem_cons.mpr ⟨mt3 (List.mem_of_getElem? (i := 131) rfl), List.forall_mem_cons.mpr ⟨mt3 (List.mem_of_getElem? (i := 132) rfl), List.forall_mem_cons.mpr ⟨mt3 (List.mem_of_getElem? (i := 133) rfl), List.forall_mem_cons.mpr ⟨mt3 (List.mem_of_getElem? (i := 134) rfl), List.forall_mem_cons.mpr ⟨mt3 (List.mem_of_getElem? (i := 135) rfl), List.forall_mem_cons.mpr ⟨mt3 (List.mem_of_getElem? (i := 137) rfl), List.forall_mem_cons.mpr ⟨mt0 (List.mem_of_getElem? (i := 21) rfl), List.forall_mem_cons.mpr ⟨mt3 (List.mem_of_getElem? (i := 138) rfl), List.forall_mem_cons.mpr ⟨mt1 (List.mem_of_getElem? (i := 76) rfl), List.forall_mem_cons.mpr ⟨mt1 (List.mem_of_getElem? (i := 73) rfl), fun _ h => absurd h List.not_mem_nil⟩⟩⟩⟩⟩⟩⟩⟩⟩⟩⟩⟩⟩⟩⟩⟩⟩⟩⟩⟩⟩⟩⟩⟩
set_option maxRecDepth 20000 in
theorem lin_30 : ∀ w ∈ wsL_law_r30, w ∈ lw_tbl := List.forall_mem_cons.mpr ⟨mt3 (List.mem_of_getElem? (i := 139) rfl), List.forall_mem_cons.mpr ⟨mt3 (List.mem_of_getElem? (i := 140) rfl), List.forall_mem_cons.mpr ⟨mt3 (List.mem_of_getElem? (i := 141) rfl), List.forall_mem_cons.mpr ⟨mt3 (List.mem_of_getElem? (i := 143) rfl), List.forall_mem_cons.mpr ⟨mt0 (List.mem_of_getElem? (i := 22) rfl), List.forall_mem_cons.mpr ⟨mt3 (List.mem_of_getElem? (i := 144) rfl), List.forall_mem_cons.mpr ⟨mt1 (List.mem_of_getElem? (i := 47) rfl), List.forall_mem_cons.mpr ⟨mt1 (List.mem_of_getElem? (i := 45) rfl), List.forall_mem_cons.mpr ⟨mt1 (List.mem_of_getElem? (i := 39) rfl), List.forall_mem_cons.mpr ⟨mt3 (List.mem_of_getElem? (i := 145) rfl), List.forall_mem_cons.mpr ⟨mt4 (List.mem_of_getElem? (i := 158) rfl), List.forall_mem_cons.mpr ⟨mt4 (List.mem_of_getElem? (i := 159) rfl), List.forall_mem_cons.mpr ⟨mt4 (List.mem_of_getElem? (i := 160) rfl), List.forall_mem_cons.mpr ⟨mt4 (List.mem_of_getElem? (i := 161) rfl), List.forall_mem_cons.mpr ⟨mt3 (List.mem_of_getElem? (i := 184) rfl), List.forall_mem_cons.mpr ⟨mt3 (List.mem_of_getElem? (i := 190) rfl), List.forall_mem_cons.mpr ⟨mt3 (List.mem_of_getElem? (i := 185) rfl), List.forall_mem_cons.mpr ⟨mt3 (List.mem_of_getElem? (i := 178) rfl), List.forall_mem_cons.mpr ⟨mt4 (List.mem_of_getElem? (i := 162) rfl), List.forall_mem_cons.mpr ⟨mt4 (List.mem_of_getElem? (i := 164) rfl), List.forall_mem_cons.mpr ⟨mt0 (List.mem_of_getElem? (i := 40) rfl), List.forall_mem_cons.mpr ⟨mt4 (List.mem_of_getElem? (i := 165) rfl), List.forall_mem_cons.mpr ⟨mt4 (List.mem_of_getElem? (i := 166) rfl), List.forall_mem_cons.mpr ⟨mt4 (List.mem_of_getElem? (i := 168) rfl), fun _ h => absurd h List.not_mem_nil⟩⟩⟩⟩⟩⟩⟩⟩⟩⟩⟩⟩⟩⟩⟩⟩⟩⟩⟩⟩⟩⟩⟩⟩
set_option maxRecDepth 20000 in
theorem lin_31 : ∀ w ∈ wsL_law_r31, w ∈ lw_tbl := List.forall_mem_cons.mpr ⟨mt0 (List.mem_of_getElem? (i := 41) rfl), List.forall_mem_cons.mpr ⟨mt4 (List.mem_of_getElem? (i := 169) rfl), List.forall_mem_cons.mpr ⟨mt3 (List.mem_of_getElem? (i := 187) rfl), List.forall_mem_cons.mpr ⟨mt3 (List.mem_of_getElem? (i := 188) rfl), List.forall_mem_cons.mpr ⟨mt3 (List.mem_of_getElem? (i := 186) rfl), List.forall_mem_cons.mpr ⟨mt4 (List.mem_of_getElem? (i := 170) rfl), List.forall_mem_cons.mpr ⟨mt4 (List.mem_of_getElem? (i := 172) rfl), List.forall_mem_cons.mpr ⟨mt0 (List.mem_of_getElem? (i := 42) rfl), List.forall_mem_cons.mpr ⟨mt4 (List.mem_of_getElem? (i := 173) rfl), List.forall_mem_cons.mpr ⟨mt4 (List.mem_of_getElem? (i := 174) rfl), List.forall_mem_cons.mpr ⟨mt4 (List.mem_of_getElem? (i := 175) rfl), List.forall_mem_cons.mpr ⟨mt4 (List.mem_of_getElem? (i := 176) rfl), List.forall_mem_cons.mpr ⟨mt4 (List.mem_of_getElem? (i := 177) rfl), List.forall_mem_cons.mpr ⟨mt4 (List.mem_of_getElem? (i := 178) rfl), List.forall_mem_cons.mpr ⟨mt4 (List.mem_of_getElem? (i := 179) rfl), List.forall_mem_cons.mpr ⟨mt4 (List.mem_of_getElem? (i := 180) rfl), List.forall_mem_cons.mpr ⟨mt4 (List.mem_of_getElem? (i := 181) rfl), List.forall_mem_cons.mpr ⟨mt4 (List.mem_of_getElem? (i := 182) rfl), List.forall_mem_cons.mpr ⟨mt4 (List.mem_of_getElem? (i := 183) rfl), List.forall_mem_cons.mpr ⟨mt4 (List.mem_of_getElem? (i := 184) rfl), List.forall_mem_cons.mpr ⟨mt4 (List.mem_of_getElem? (i := 185) rfl), List.forall_mem_cons.mpr ⟨mt4 (List.mem_of_getElem? (i := 186) rfl), List.forall_mem_cons.mpr ⟨mt4 (List.mem_of_getElem? (i := 187) rfl), List.forall_mem_cons.mpr ⟨mt4 (List.mem_of_getElem? (i := 189) rfl), fun _ h => absurd h List.not_mem_nil⟩⟩⟩⟩⟩⟩⟩⟩⟩⟩⟩⟩⟩⟩⟩⟩⟩⟩⟩⟩⟩⟩⟩⟩
set_option maxRecDepth 20000 in
theorem lin_32 : ∀ w ∈ wsL_law_r32, w ∈ lw_tbl := List.forall_mem_cons.mpr ⟨mt0 (List.mem_of_getElem? (i := 43) rfl), List.forall_mem_cons.mpr ⟨mt4 (List.mem_of_getElem? (i := 190) rfl), List.forall_mem_cons.mpr ⟨mt4 (List.mem_of_getElem? (i := 191) rfl), List.forall_mem_cons.mpr ⟨mt4 (List.mem_of_getElem? (i := 192) rfl), List.forall_mem_cons.mpr ⟨mt4 (List.mem_of_getElem? (i := 193) rfl), List.forall_mem_cons.mpr ⟨mt4 (List.mem_of_getElem? (i := 195) rfl), List.forall_mem_cons.mpr ⟨mt0 (List.mem_of_getElem? (i := 44) rfl), List.forall_mem_cons.mpr ⟨mt4 (List.mem_of_getElem? (i := 196) rfl), List.forall_mem_cons.mpr ⟨mt4 (List.mem_of_getElem? (i := 197) rfl), List.forall_mem_cons.mpr ⟨mt4 (List.mem_of_getElem? (i := 199) rfl), List.forall_mem_cons.mpr ⟨mt0 (List.mem_of_getElem? (i := 45) rfl), List.forall_mem_cons.mpr ⟨mt4 (List.mem_of_getElem? (i := 200) rfl), List.forall_mem_cons.mpr ⟨mt4 (List.mem_of_getElem? (i := 205) rfl), List.forall_mem_cons.mpr ⟨mt4 (List.mem_of_getElem? (i := 201) rfl), List.forall_mem_cons.mpr ⟨mt4 (List.mem_of_getElem? (i := 203) rfl), List.forall_mem_cons.mpr ⟨mt0 (List.mem_of_getElem? (i := 46) rfl), List.forall_mem_cons.mpr ⟨mt4 (List.mem_of_getElem? (i := 204) rfl), List.forall_mem_cons.mpr ⟨mt4 (List.mem_of_getElem? (i := 206) rfl), List.forall_mem_cons.mpr ⟨mt4 (List.mem_of_getElem? (i := 208) rfl), List.forall_mem_cons.mpr ⟨mt0 (List.mem_of_getElem? (i := 47) rfl), List.forall_mem_cons.mpr ⟨mt4 (List.mem_of_getElem? (i := 209) rfl), List.forall_mem_cons.mpr ⟨mt4 (List.mem_of_getElem? (i := 210) rfl), List.forall_mem_cons.mpr ⟨mt4 (List.mem_of_getElem? (i := 212) rfl), List.forall_mem_cons.mpr ⟨mt0 (List.mem_of_getElem? (i := 48) rfl), fun _ h => absurd h List.not_mem_nil⟩⟩⟩⟩⟩⟩⟩⟩⟩⟩⟩⟩⟩⟩⟩⟩⟩⟩⟩⟩⟩⟩⟩⟩
set_option maxRecDepth 20000 in
theorem lin_33 : ∀ w ∈ wsL_law_r33, w ∈ lw_tbl := List.forall_mem_cons.mpr ⟨mt4 (List.mem_of_getElem? (i := 213) rfl), List.forall_mem_cons.mpr ⟨mt4 (List.mem_of_getElem? (i := 214) rfl), List.forall_mem_cons.mpr ⟨mt4 (List.mem_of_getElem? (i := 216) rfl), List.forall_mem_cons.mpr ⟨mt0 (List.mem_of_getElem? (i := 49) rfl), List.forall_mem_cons.mpr ⟨mt4 (List.mem_of_getElem? (i := 217) rfl), List.forall_mem_cons.mpr ⟨mt3 (List.mem_of_getElem? (i := 146) rfl), List.forall_mem_cons.mpr ⟨mt3 (List.mem_of_getElem? (i := 147) rfl), List.forall_mem_cons.mpr ⟨mt3 (List.mem_of_getElem? (i := 148) rfl), List.forall_mem_cons.mpr ⟨mt3 (List.mem_of_getElem? (i := 149) rfl), List.forall_mem_cons.mpr ⟨mt1 (List.mem_of_getElem? (i := 161) rfl), List.forall_mem_cons.mpr ⟨mt1 (List.mem_of_getElem? (i := 159) rfl), List.forall_mem_cons.mpr ⟨mt4 (List.mem_of_getElem? (i := 218) rfl), List.forall_mem_cons.mpr ⟨mt4 (List.mem_of_getElem? (i := 219) rfl), List.forall_mem_cons.mpr ⟨mt4 (List.mem_of_getElem? (i := 220) rfl), List.forall_mem_cons.mpr ⟨mt4 (List.mem_of_getElem? (i := 221) rfl), List.forall_mem_cons.mpr ⟨mt3 (List.mem_of_getElem? (i := 150) rfl), List.forall_mem_cons.mpr ⟨mt3 (List.mem_of_getElem? (i := 151) rfl), List.forall_mem_cons.mpr ⟨mt3 (List.mem_of_getElem? (i := 152) rfl), List.forall_mem_cons.mpr ⟨mt3 (List.mem_of_getElem? (i := 153) rfl), List.forall_mem_cons.mpr ⟨mt3 (List.mem_of_getElem? (i := 154) rfl), List.forall_mem_cons.mpr ⟨mt3 (List.mem_of_getElem? (i := 156) rfl), List.forall_mem_cons.mpr ⟨mt0 (List.mem_of_getElem? (i := 23) rfl), List.forall_mem_cons.mpr ⟨mt3 (List.mem_of_getElem? (i := 157) rfl), List.forall_mem_cons.mpr ⟨mt1 (List.mem_of_getElem? (i := 49) rfl), fun _ h => absurd h List.not_mem_nil⟩⟩⟩⟩⟩⟩⟩⟩⟩⟩⟩⟩⟩⟩⟩⟩⟩⟩⟩⟩⟩⟩⟩⟩
set_option maxRecDepth 20000 in
theorem lin_34 : ∀ w ∈ wsL_law_r34, w ∈ lw_tbl := List.forall_mem_cons.mpr ⟨mt4 (List.mem_of_getElem? (i := 222) rfl), List.forall_mem_cons.mpr ⟨mt4 (List.mem_of_getElem? (i := 223) rfl), List.forall_mem_cons.mpr ⟨mt4 (List.mem_of_getElem? (i := 224) rfl), List.forall_mem_cons.mpr ⟨mt4 (List.mem_of_getElem? (i := 225) rfl), List.forall_mem_cons.mpr ⟨mt4 (List.mem_of_getElem? (i := 226) rfl), List.forall_mem_cons.mpr ⟨mt4 (List.mem_of_getElem? (i := 227) rfl), List.forall_mem_cons.mpr ⟨mt4 (List.mem_of_getElem? (i := 229) rfl), List.forall_mem_cons.mpr ⟨mt0 (List.mem_of_getElem? (i := 50) rfl), List.forall_mem_cons.mpr ⟨mt4 (List.mem_of_getElem? (i := 230) rfl), List.forall_mem_cons.mpr ⟨mt4 (List.mem_of_getElem? (i := 231) rfl), List.forall_mem_cons.mpr ⟨mt4 (List.mem_of_getElem? (i := 233) rfl), List.forall_mem_cons.mpr ⟨mt0 (List.mem_of_getElem? (i := 51) rfl), List.forall_mem_cons.mpr ⟨mt4 (List.mem_of_getElem? (i := 234) rfl), List.forall_mem_cons.mpr ⟨mt3 (List.mem_of_getElem? (i := 158) rfl), List.forall_mem_cons.mpr ⟨mt3 (List.mem_of_getElem? (i := 159) rfl), List.forall_mem_cons.mpr ⟨mt3 (List.mem_of_getElem? (i := 160) rfl), List.forall_mem_cons.mpr ⟨mt3 (List.mem_of_getElem? (i := 161) rfl), List.forall_mem_cons.mpr ⟨mt3 (List.mem_of_getElem? (i := 162) rfl), List.forall_mem_cons.mpr ⟨mt3 (List.mem_of_getElem? (i := 163) rfl), List.forall_mem_cons.mpr ⟨mt4 (List.mem_of_getElem? (i := 235) rfl), List.forall_mem_cons.mpr ⟨mt4 (List.mem_of_getElem? (i := 236) rfl), List.forall_mem_cons.mpr ⟨mt4 (List.mem_of_getElem? (i := 237) rfl), List.forall_mem_cons.mpr ⟨mt4 (List.mem_of_getElem? (i := 238) rfl), List.forall_mem_cons.mpr ⟨mt4 (List.mem_of_getElem? (i := 239) rfl), fun _ h => absurd h List.not_mem_nil⟩⟩⟩⟩⟩⟩⟩⟩⟩⟩⟩⟩⟩⟩⟩⟩⟩⟩⟩⟩⟩⟩⟩⟩
set_option maxRecDepth 20000 in
theorem lin_35 : ∀ w ∈ wsL_law_r35, w ∈ lw_tbl := List.forall_mem_cons.mpr ⟨mt5 (List.mem_of_getElem? (i := 0) rfl), fun _ h => absurd h List.not_mem_nil⟩
set_option maxRecDepth 20000 in
theorem inX8 : ∀ w ∈ wsX80, w ∈ lw_tbl := List.forall_mem_cons.mpr ⟨mt1 (List.mem_of_getElem? (i := 195) rfl), List.forall_mem_cons.mpr ⟨mt1 (List.mem_of_getElem? (i := 197) rfl), List.forall_mem_cons.mpr ⟨mt1 (List.mem_of_getElem? (i := 199) rfl), List.forall_mem_cons.mpr ⟨mt1 (List.mem_of_getElem? (i := 201) rfl), List.forall_mem_cons.mpr ⟨mt1 (List.mem_of_getElem? (i := 203) rfl), List.forall_mem_cons.mpr ⟨mt1 (List.mem_of_getElem? (i := 205) rfl), List.forall_mem_cons.mpr ⟨mt1 (List.mem_of_getElem? (i := 207) rfl), List.forall_mem_cons.mpr ⟨mt1 (List.mem_of_getElem? (i := 209) rfl), List.forall_mem_cons.mpr ⟨mt1 (List.mem_of_getElem? (i := 211) rfl), fun _ h => absurd h List.not_mem_nil⟩⟩⟩⟩⟩⟩⟩⟩⟩
set_option maxRecDepth 20000 in
theorem inX9 : ∀ w ∈ wsX90, w ∈ lw_tbl := List.forall_mem_cons.mpr ⟨mt3 (List.mem_of_getElem? (i := 191) rfl), List.forall_mem_cons.mpr ⟨mt3 (List.mem_of_getElem? (i := 193) rfl), List.forall_mem_cons.mpr ⟨mt3 (List.mem_of_getElem? (i := 195) rfl), List.forall_mem_cons.mpr ⟨mt3 (List.mem_of_getElem? (i := 197) rfl), List.forall_mem_cons.mpr ⟨mt3 (List.mem_of_getElem? (i := 199) rfl), List.forall_mem_cons.mpr ⟨mt3 (List.mem_of_getElem? (i := 201) rfl), List.forall_mem_cons.mpr ⟨mt3 (List.mem_of_getElem? (i := 203) rfl), List.forall_mem_cons.mpr ⟨mt3 (List.mem_of_getElem? (i := 205) rfl), List.forall_mem_cons.mpr ⟨mt3 (List.mem_of_getElem? (i := 207) rfl), List.forall_mem_cons.mpr ⟨mt3 (List.mem_of_getElem? (i := 209) rfl), List.forall_mem_cons.mpr ⟨mt3 (List.mem_of_getElem? (i := 211) rfl), List.forall_mem_cons.mpr ⟨mt3 (List.mem_of_getElem? (i := 213) rfl), List.forall_mem_cons.mpr ⟨mt3 (List.mem_of_getElem? (i := 215) rfl), List.forall_mem_cons.mpr ⟨mt3 (List.mem_of_getElem? (i := 217) rfl), List.forall_mem_cons.mpr ⟨mt3 (List.mem_of_getElem? (i := 219) rfl), List.forall_mem_cons.mpr ⟨mt3 (List.mem_of_getElem? (i := 221) rfl), List.forall_mem_cons.mpr ⟨mt3 (List.mem_of_getElem? (i := 223) rfl), List.forall_mem_cons.mpr ⟨mt3 (List.mem_of_getElem? (i := 225) rfl), List.forall_mem_cons.mpr ⟨mt3 (List.mem_of_getElem? (i := 227) rfl), List.forall_mem_cons.mpr ⟨mt3 (List.mem_of_getElem? (i := 229) rfl), List.forall_mem_cons.mpr ⟨mt3 (List.mem_of_getElem? (i := 231) rfl), List.forall_mem_cons.mpr ⟨mt3 (List.mem_of_getElem? (i := 233) rfl), fun _ h => absurd h List.not_mem_nil⟩⟩⟩⟩⟩⟩⟩⟩⟩⟩⟩⟩⟩⟩⟩⟩⟩⟩⟩⟩⟩⟩
set_option maxRecDepth 20000 in
theorem inX1 : ∀ w ∈ wsX10, w ∈ lw_tbl := List.forall_mem_cons.mpr ⟨mt1 (List.mem_of_getElem? (i := 50) rfl), List.forall_mem_cons.mpr ⟨mt1 (List.mem_of_getElem? (i := 52) rfl), List.forall_mem_cons.mpr ⟨mt1 (List.mem_of_getElem? (i := 54) rfl), List.forall_mem_cons.mpr ⟨mt1 (List.mem_of_getElem? (i := 56) rfl), List.forall_mem_cons.mpr ⟨mt1 (List.mem_of_getElem? (i := 58) rfl), List.forall_mem_cons.mpr ⟨mt1 (List.mem_of_getElem? (i := 60) rfl), fun _ h => absurd h List.not_mem_nil⟩⟩⟩⟩⟩⟩
set_option maxRecDepth 20000 in
theorem inX6 : ∀ w ∈ wsX60, w ∈ lw_tbl := List.forall_mem_cons.mpr ⟨mt1 (List.mem_of_getElem? (i := 79) rfl), List.forall_mem_cons.mpr ⟨mt1 (List.mem_of_getElem? (i := 81) rfl), List.forall_mem_cons.mpr ⟨mt1 (List.mem_of_getElem? (i := 83) rfl), List.forall_mem_cons.mpr ⟨mt1 (List.mem_of_getElem? (i := 85) rfl), fun _ h => absurd h List.not_mem_nil⟩⟩⟩⟩
set_option maxRecDepth 20000 in
theorem inX0 : ∀ w ∈ wsX00, w ∈ lw_tbl := List.forall_mem_cons.mpr ⟨mt1 (List.mem_of_getElem? (i := 96) rfl), List.forall_mem_cons.mpr ⟨mt1 (List.mem_of_getElem? (i := 98) rfl), fun _ h => absurd h List.not_mem_nil⟩⟩
set_option maxRecDepth 20000 in
theorem inX5 : ∀ w ∈ wsX50, w ∈ lw_tbl := List.forall_mem_cons.mpr ⟨mt1 (List.mem_of_getElem? (i := 111) rfl), List.forall_mem_cons.mpr ⟨mt1 (List.mem_of_getElem? (i := 113) rfl), fun _ h => absurd h List.not_mem_nil⟩⟩
set_option maxRecDepth 20000 in
theorem inX3 : ∀ w ∈ wsX30, w ∈ lw_tbl := List.forall_mem_cons.mpr ⟨mt1 (List.mem_of_getElem? (i := 135) rfl), List.forall_mem_cons.mpr ⟨mt1 (List.mem_of_getElem? (i := 137) rfl), List.forall_mem_cons.mpr ⟨mt1 (List.mem_of_getElem? (i := 139) rfl), List.forall_mem_cons.mpr ⟨mt1 (List.mem_of_getElem? (i := 141) rfl), List.forall_mem_cons.mpr ⟨mt1 (List.mem_of_getElem? (i := 143) rfl), List.forall_mem_cons.mpr ⟨mt1 (List.mem_of_getElem? (i := 145) rfl), List.forall_mem_cons.mpr ⟨mt1 (List.mem_of_getElem? (i := 147) rfl), List.forall_mem_cons.mpr ⟨mt1 (List.mem_of_getElem? (i := 149) rfl), fun _ h => absurd h List.not_mem_nil⟩⟩⟩⟩⟩⟩⟩⟩
set_option maxRecDepth 20000 in
theorem inX2 : ∀ w ∈ wsX20, w ∈ lw_tbl := List.forall_mem_cons.mpr ⟨mt1 (List.mem_of_getElem? (i := 162) rfl), List.forall_mem_cons.mpr ⟨mt1 (List.mem_of_getElem? (i := 164) rfl), fun _ h => absurd h List.not_mem_nil⟩⟩
set_option maxRecDepth 20000 in
theorem inX4 : ∀ w ∈ wsX40, w ∈ lw_tbl := List.forall_mem_cons.mpr ⟨mt1 (List.mem_of_getElem? (i := 177) rfl), List.forall_mem_cons.mpr ⟨mt1 (List.mem_of_getElem? (i := 179) rfl), List.forall_mem_cons.mpr ⟨mt1 (List.mem_of_getElem? (i := 181) rfl), List.forall_mem_cons.mpr ⟨mt1 (List.mem_of_getElem? (i := 183) rfl), fun _ h => absurd h List.not_mem_nil⟩⟩⟩⟩
theorem ap2 {a b big : List Cond} (ha : ∀ w ∈ a, w ∈ big) (hb : ∀ w ∈ b, w ∈ big) : ∀ w ∈ a ++ b, w ∈ big := fun w h => (List.mem_append.mp h).elim (ha w) (hb w)
theorem wsL_law_in : ∀ w ∈ wsL_law, w ∈ lw_tbl := ap2 (ap2 (ap2 (ap2 (ap2 (ap2 (ap2 (ap2 (ap2 (ap2 (ap2 lin_1 (ap2 lin_2 (ap2 lin_3 (ap2 lin_4 (ap2 lin_5 (ap2 lin_6 (ap2 lin_7 (ap2 lin_8 (ap2 lin_9 (ap2 lin_10 (ap2 lin_11 (ap2 lin_12 (ap2 lin_13 (ap2 lin_14 (ap2 lin_15 (ap2 lin_16 (ap2 lin_17 (ap2 lin_18 (ap2 lin_19 (ap2 lin_20 (ap2 lin_21 (ap2 lin_22 (ap2 lin_23 (ap2 lin_24 (ap2 lin_25 (ap2 lin_26 (ap2 lin_27 (ap2 lin_28 (ap2 lin_29 (ap2 lin_30 (ap2 lin_31 (ap2 lin_32 (ap2 lin_33 (ap2 lin_34 (lin_35))))))))))))))))))))))))))))))))))) inX8) inX9) inX1) inX6) inX0) inX5) inX3) inX2) inX4) (fun _ h => absurd h List.not_mem_nil)
end
