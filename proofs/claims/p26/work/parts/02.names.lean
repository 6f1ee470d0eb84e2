/-! ===== BEGIN words of one list among another's, by their places ===== -/
theorem goodIn_r {big : List Cond} (ws : List Cond) (ps : List Nat) (hp : ws = ps.filterMap (fun i => big[i]?)) (h : ws.all goodWord = true) : GoodIn big ws := by
  intro w hw
  have h1 := List.all_eq_true.mp h w hw
  rw [hp] at hw
  obtain ⟨i, -, hi⟩ := List.mem_filterMap.mp hw
  have hm : w ∈ big := by first | exact List.mem_of_getElem? hi | exact List.getElem?_mem hi
  exact ⟨hm, good_of_word h1⟩
theorem goodIn_app {big a b : List Cond} (ha : GoodIn big a) (hb : GoodIn big b) : GoodIn big (a ++ b) := fun w h => (List.mem_append.mp h).elim (ha w) (hb w)
theorem goodIn_ca {big a b : List Cond} {c : Cond} (ha : GoodIn big (c :: a)) (hb : GoodIn big b) : GoodIn big (c :: (a ++ b)) := fun w h => (List.mem_cons.mp h).elim (fun e => ha w (List.mem_cons.mpr (Or.inl e))) (fun h => (List.mem_append.mp h).elim (fun h => ha w (List.mem_cons.mpr (Or.inr h))) (hb w))
theorem goodIn_sub {big ws : List Cond} (hm : ∀ w ∈ ws, w ∈ big) (h : ws.all goodWord = true) : GoodIn big ws := fun w hw => ⟨hm w hw, good_of_word (List.all_eq_true.mp h w hw)⟩
/-! ===== END ===== -/

/-! ===== BEGIN printed: names, fields, word lists, decode rows ===== -/
def RX0 : String := "StoryNest$Book"
def TX0 : u_T := fun k => match k with
  | 0 => ("StoryNest$Book", "parts", "[I", true)
  | 1 => ("StoryNest$Book", "minutes", "[I", true)
  | 2 => ("StoryNest$Book", "gates", "[I", true)
  | 3 => ("StoryNest$Book", "tellers", "[I", true)
  | 4 => ("StoryNest$Book", "known", "[I", true)
  | 5 => ("StoryNest$Book", "waits", "[I", true)
  | 6 => ("StoryNest$Book", "needs", "[I", true)
  | 7 => ("StoryNest$Book", "waitCount", "I", false)
  | 8 => ("StoryNest$Book", "law", "I", false)
  | _ => ("StoryNest$Book", "breath", "I", false)
def tyX0 : Nat → FieldType := fun k => match k with
  | 0 => .array .int
  | 1 => .array .int
  | 2 => .array .int
  | 3 => .array .int
  | 4 => .array .int
  | 5 => .array .int
  | 6 => .array .int
  | 7 => .int
  | 8 => .int
  | _ => .int
abbrev wsX00 : List Cond := u_ws RX0 TX0 10
theorem nmX0 : ∀ a, a < 10 → ∀ b, b < 10 → a ≠ b → (TX0 a).2.1 ≠ (TX0 b).2.1 := by decide +kernel
theorem tyX0_ok : ∀ k, k < 10 → parseFieldDescriptor (TX0 k).2.2.1 = some (tyX0 k) := by decide +kernel
abbrev cX0_init : ByteArray := prog_2_method_1_code
def yX0_init : MethodName := ⟨RX0, "<init>", "()V"⟩
abbrev cX0_copy : ByteArray := prog_2_method_2_code
def yX0_copy : MethodName := ⟨RX0, "copy", "(LStoryNest$Book;)V"⟩
abbrev cX0_write : ByteArray := prog_2_method_3_code
def yX0_write : MethodName := ⟨RX0, "write", "(ILStoryNest$Pad;)V"⟩
abbrev cX0_minutesAt : ByteArray := prog_2_method_4_code
def yX0_minutesAt : MethodName := ⟨RX0, "minutesAt", "(II)I"⟩
abbrev cX0_minutesOf : ByteArray := prog_2_method_5_code
def yX0_minutesOf : MethodName := ⟨RX0, "minutesOf", "(II)I"⟩
abbrev cX0_toldBy : ByteArray := prog_2_method_6_code
def yX0_toldBy : MethodName := ⟨RX0, "toldBy", "(I)I"⟩
abbrev cX0_hasWait : ByteArray := prog_2_method_7_code
def yX0_hasWait : MethodName := ⟨RX0, "hasWait", "(III)Z"⟩
abbrev cX0_addWait : ByteArray := prog_2_method_8_code
def yX0_addWait : MethodName := ⟨RX0, "addWait", "(III)I"⟩
abbrev cX0_removeWait : ByteArray := prog_2_method_9_code
def yX0_removeWait : MethodName := ⟨RX0, "removeWait", "(I)I"⟩
abbrev cX0_dropWaitsBeyond : ByteArray := prog_2_method_10_code
def yX0_dropWaitsBeyond : MethodName := ⟨RX0, "dropWaitsBeyond", "(II)V"⟩
abbrev cX0_gatherNeeds : ByteArray := prog_2_method_11_code
def yX0_gatherNeeds : MethodName := ⟨RX0, "gatherNeeds", "()V"⟩
abbrev cX0_storyOf : ByteArray := prog_2_method_12_code
def yX0_storyOf : MethodName := ⟨RX0, "storyOf", "(I)I"⟩
abbrev cX0_partOf : ByteArray := prog_2_method_13_code
def yX0_partOf : MethodName := ⟨RX0, "partOf", "(I)I"⟩
abbrev cX0_otherOf : ByteArray := prog_2_method_14_code
def yX0_otherOf : MethodName := ⟨RX0, "otherOf", "(I)I"⟩
def RX1 : String := "StoryNest$Evening"
def TX1 : u_T := fun k => match k with
  | 0 => ("StoryNest$Evening", "book", "LStoryNest$Book;", true)
  | 1 => ("StoryNest$Evening", "pad", "LStoryNest$Pad;", true)
  | 2 => ("StoryNest$Evening", "moment", "LStoryNest$Moment;", true)
  | 3 => ("StoryNest$Evening", "place", "I", false)
  | 4 => ("StoryNest$Evening", "why", "I", false)
  | 5 => ("StoryNest$Evening", "open", "I", false)
  | 6 => ("StoryNest$Evening", "deep", "I", false)
  | _ => ("StoryNest$Evening", "minutes", "I", false)
def tyX1 : Nat → FieldType := fun k => match k with
  | 0 => .object "StoryNest$Book"
  | 1 => .object "StoryNest$Pad"
  | 2 => .object "StoryNest$Moment"
  | 3 => .int
  | 4 => .int
  | 5 => .int
  | 6 => .int
  | _ => .int
abbrev wsX10 : List Cond := u_ws RX1 TX1 8
theorem nmX1 : ∀ a, a < 8 → ∀ b, b < 8 → a ≠ b → (TX1 a).2.1 ≠ (TX1 b).2.1 := by decide +kernel
theorem tyX1_ok : ∀ k, k < 8 → parseFieldDescriptor (TX1 k).2.2.1 = some (tyX1 k) := by decide +kernel
abbrev cX1_init : ByteArray := prog_3_method_1_code
def yX1_init : MethodName := ⟨RX1, "<init>", "(LStoryNest$Book;LStoryNest$Pad;)V"⟩
abbrev cX1_isGood : ByteArray := prog_3_method_2_code
def yX1_isGood : MethodName := ⟨RX1, "isGood", "()Z"⟩
abbrev cX1_tellPart : ByteArray := prog_3_method_3_code
def yX1_tellPart : MethodName := ⟨RX1, "tellPart", "(II)V"⟩
def RX2 : String := "StoryNest$Game"
def TX2 : u_T := fun k => match k with
  | _ => ("StoryNest$Game", "nights", "LStoryNest$Nights;", true)
def tyX2 : Nat → FieldType := fun k => match k with
  | _ => .object "StoryNest$Nights"
abbrev wsX20 : List Cond := u_ws RX2 TX2 1
theorem nmX2 : ∀ a, a < 1 → ∀ b, b < 1 → a ≠ b → (TX2 a).2.1 ≠ (TX2 b).2.1 := by decide +kernel
theorem tyX2_ok : ∀ k, k < 1 → parseFieldDescriptor (TX2 k).2.2.1 = some (tyX2 k) := by decide +kernel
abbrev cX2_init : ByteArray := prog_4_method_1_code
def yX2_init : MethodName := ⟨RX2, "<init>", "(LStoryNest$Nights;)V"⟩
abbrev cX2_play : ByteArray := prog_4_method_2_code
def yX2_play : MethodName := ⟨RX2, "play", "(II)V"⟩
abbrev cX2_canWin : ByteArray := prog_4_method_3_code
def yX2_canWin : MethodName := ⟨RX2, "canWin", "(I)Z"⟩
abbrev cX2_winningBegin : ByteArray := prog_4_method_4_code
def yX2_winningBegin : MethodName := ⟨RX2, "winningBegin", "()I"⟩
def RX3 : String := "StoryNest$Moment"
def TX3 : u_T := fun k => match k with
  | 0 => ("StoryNest$Moment", "book", "LStoryNest$Book;", true)
  | 1 => ("StoryNest$Moment", "night", "I", false)
  | 2 => ("StoryNest$Moment", "open", "I", false)
  | 3 => ("StoryNest$Moment", "out", "I", false)
  | 4 => ("StoryNest$Moment", "mayGoOn", "I", false)
  | 5 => ("StoryNest$Moment", "busyTellers", "I", false)
  | _ => ("StoryNest$Moment", "mayBegin", "Z", false)
def tyX3 : Nat → FieldType := fun k => match k with
  | 0 => .object "StoryNest$Book"
  | 1 => .int
  | 2 => .int
  | 3 => .int
  | 4 => .int
  | 5 => .int
  | _ => .boolean
abbrev wsX30 : List Cond := u_ws RX3 TX3 7
theorem nmX3 : ∀ a, a < 7 → ∀ b, b < 7 → a ≠ b → (TX3 a).2.1 ≠ (TX3 b).2.1 := by decide +kernel
theorem tyX3_ok : ∀ k, k < 7 → parseFieldDescriptor (TX3 k).2.2.1 = some (tyX3 k) := by decide +kernel
abbrev cX3_init : ByteArray := prog_5_method_1_code
def yX3_init : MethodName := ⟨RX3, "<init>", "(LStoryNest$Book;)V"⟩
abbrev cX3_partsTold : ByteArray := prog_5_method_2_code
def yX3_partsTold : MethodName := ⟨RX3, "partsTold", "(II)I"⟩
abbrev cX3_allPartsTold : ByteArray := prog_5_method_3_code
def yX3_allPartsTold : MethodName := ⟨RX3, "allPartsTold", "(I)I"⟩
abbrev cX3_look : ByteArray := prog_5_method_4_code
def yX3_look : MethodName := ⟨RX3, "look", "(I)V"⟩
abbrev cX3_lowestOfRow : ByteArray := prog_5_method_5_code
def yX3_lowestOfRow : MethodName := ⟨RX3, "lowestOfRow", "()I"⟩
abbrev cX3_whyNot : ByteArray := prog_5_method_6_code
def yX3_whyNot : MethodName := ⟨RX3, "whyNot", "(II)I"⟩
abbrev cX3_waitsFor : ByteArray := prog_5_method_7_code
def yX3_waitsFor : MethodName := ⟨RX3, "waitsFor", "(II)I"⟩
abbrev cX3_deepWith : ByteArray := prog_5_method_8_code
def yX3_deepWith : MethodName := ⟨RX3, "deepWith", "(I)I"⟩
abbrev cX3_after : ByteArray := prog_5_method_9_code
def yX3_after : MethodName := ⟨RX3, "after", "(I)I"⟩
abbrev cX3_rowAfter : ByteArray := prog_5_method_10_code
def yX3_rowAfter : MethodName := ⟨RX3, "rowAfter", "(IZ)I"⟩
def RX4 : String := "StoryNest$Nights"
def TX4 : u_T := fun k => match k with
  | 0 => ("StoryNest$Nights", "book", "LStoryNest$Book;", true)
  | 1 => ("StoryNest$Nights", "moment", "LStoryNest$Moment;", true)
  | 2 => ("StoryNest$Nights", "nights", "[I", true)
  | 3 => ("StoryNest$Nights", "next", "[I", true)
  | 4 => ("StoryNest$Nights", "worth", "[J", true)
  | 5 => ("StoryNest$Nights", "slots", "[I", true)
  | 6 => ("StoryNest$Nights", "round", "I", false)
  | 7 => ("StoryNest$Nights", "size", "I", false)
  | 8 => ("StoryNest$Nights", "set", "I", false)
  | _ => ("StoryNest$Nights", "deep", "I", false)
def tyX4 : Nat → FieldType := fun k => match k with
  | 0 => .object "StoryNest$Book"
  | 1 => .object "StoryNest$Moment"
  | 2 => .array .int
  | 3 => .array .int
  | 4 => .array .long
  | 5 => .array .int
  | 6 => .int
  | 7 => .int
  | 8 => .int
  | _ => .int
abbrev wsX40 : List Cond := u_ws RX4 TX4 10
theorem nmX4 : ∀ a, a < 10 → ∀ b, b < 10 → a ≠ b → (TX4 a).2.1 ≠ (TX4 b).2.1 := by decide +kernel
theorem tyX4_ok : ∀ k, k < 10 → parseFieldDescriptor (TX4 k).2.2.1 = some (tyX4 k) := by decide +kernel
abbrev cX4_init : ByteArray := prog_6_method_1_code
def yX4_init : MethodName := ⟨RX4, "<init>", "(LStoryNest$Book;)V"⟩
abbrev cX4_forget : ByteArray := prog_6_method_2_code
def yX4_forget : MethodName := ⟨RX4, "forget", "()V"⟩
abbrev cX4_gather : ByteArray := prog_6_method_3_code
def yX4_gather : MethodName := ⟨RX4, "gather", "(II)V"⟩
abbrev cX4_beginRound : ByteArray := prog_6_method_4_code
def yX4_beginRound : MethodName := ⟨RX4, "beginRound", "()V"⟩
abbrev cX4_expand : ByteArray := prog_6_method_5_code
def yX4_expand : MethodName := ⟨RX4, "expand", "(I)V"⟩
abbrev cX4_canCome : ByteArray := prog_6_method_6_code
def yX4_canCome : MethodName := ⟨RX4, "canCome", "(I)Z"⟩
abbrev cX4_nodeOf : ByteArray := prog_6_method_7_code
def yX4_nodeOf : MethodName := ⟨RX4, "nodeOf", "(I)I"⟩
abbrev cX4_addNode : ByteArray := prog_6_method_8_code
def yX4_addNode : MethodName := ⟨RX4, "addNode", "(II)I"⟩
abbrev cX4_nodeAfter : ByteArray := prog_6_method_9_code
def yX4_nodeAfter : MethodName := ⟨RX4, "nodeAfter", "(II)I"⟩
abbrev cX4_isOut : ByteArray := prog_6_method_10_code
def yX4_isOut : MethodName := ⟨RX4, "isOut", "(II)Z"⟩
abbrev cX4_isAllOut : ByteArray := prog_6_method_11_code
def yX4_isAllOut : MethodName := ⟨RX4, "isAllOut", "(I)Z"⟩
abbrev cX4_minutesAt : ByteArray := prog_6_method_12_code
def yX4_minutesAt : MethodName := ⟨RX4, "minutesAt", "(I)I"⟩
def RX5 : String := "StoryNest$Out"
def TX5 : u_T := fun k => match k with
  | 0 => ("StoryNest$Out", "book", "LStoryNest$Book;", true)
  | 1 => ("StoryNest$Out", "nights", "LStoryNest$Nights;", true)
  | 2 => ("StoryNest$Out", "ownPrice", "[I", true)
  | _ => ("StoryNest$Out", "isEnd", "[Z", true)
def tyX5 : Nat → FieldType := fun k => match k with
  | 0 => .object "StoryNest$Book"
  | 1 => .object "StoryNest$Nights"
  | 2 => .array .int
  | _ => .array .boolean
abbrev wsX50 : List Cond := u_ws RX5 TX5 4
theorem nmX5 : ∀ a, a < 4 → ∀ b, b < 4 → a ≠ b → (TX5 a).2.1 ≠ (TX5 b).2.1 := by decide +kernel
theorem tyX5_ok : ∀ k, k < 4 → parseFieldDescriptor (TX5 k).2.2.1 = some (tyX5 k) := by decide +kernel
abbrev cX5_init : ByteArray := prog_7_method_1_code
def yX5_init : MethodName := ⟨RX5, "<init>", "(LStoryNest$Book;LStoryNest$Nights;)V"⟩
abbrev cX5_evenings : ByteArray := prog_7_method_2_code
def yX5_evenings : MethodName := ⟨RX5, "evenings", "()J"⟩
abbrev cX5_leastMinutes : ByteArray := prog_7_method_3_code
def yX5_leastMinutes : MethodName := ⟨RX5, "leastMinutes", "()I"⟩
abbrev cX5_leastLetter : ByteArray := prog_7_method_4_code
def yX5_leastLetter : MethodName := ⟨RX5, "leastLetter", "(I)I"⟩
abbrev cX5_priceAll : ByteArray := prog_7_method_5_code
def yX5_priceAll : MethodName := ⟨RX5, "priceAll", "()V"⟩
abbrev cX5_packedPrices : ByteArray := prog_7_method_6_code
def yX5_packedPrices : MethodName := ⟨RX5, "packedPrices", "(I)J"⟩
abbrev cX5_priceOf : ByteArray := prog_7_method_7_code
def yX5_priceOf : MethodName := ⟨RX5, "priceOf", "(III)I"⟩
abbrev cX5_leastPrice : ByteArray := prog_7_method_8_code
def yX5_leastPrice : MethodName := ⟨RX5, "leastPrice", "(II)I"⟩
abbrev cX5_cheapestStory : ByteArray := prog_7_method_9_code
def yX5_cheapestStory : MethodName := ⟨RX5, "cheapestStory", "(II)I"⟩
abbrev cX5_markEnds : ByteArray := prog_7_method_10_code
def yX5_markEnds : MethodName := ⟨RX5, "markEnds", "(I)V"⟩
abbrev cX5_markMinute : ByteArray := prog_7_method_11_code
def yX5_markMinute : MethodName := ⟨RX5, "markMinute", "(I)V"⟩
abbrev cX5_marked : ByteArray := prog_7_method_12_code
def yX5_marked : MethodName := ⟨RX5, "marked", "()I"⟩
abbrev cX5_markedMinute : ByteArray := prog_7_method_13_code
def yX5_markedMinute : MethodName := ⟨RX5, "markedMinute", "(I)I"⟩
def RX6 : String := "StoryNest$Pad"
def TX6 : u_T := fun k => match k with
  | 0 => ("StoryNest$Pad", "signs", "[I", true)
  | _ => ("StoryNest$Pad", "size", "I", false)
def tyX6 : Nat → FieldType := fun k => match k with
  | 0 => .array .int
  | _ => .int
abbrev wsX60 : List Cond := u_ws RX6 TX6 2
theorem nmX6 : ∀ a, a < 2 → ∀ b, b < 2 → a ≠ b → (TX6 a).2.1 ≠ (TX6 b).2.1 := by decide +kernel
theorem tyX6_ok : ∀ k, k < 2 → parseFieldDescriptor (TX6 k).2.2.1 = some (tyX6 k) := by decide +kernel
abbrev cX6_init : ByteArray := prog_8_method_1_code
def yX6_init : MethodName := ⟨RX6, "<init>", "()V"⟩
abbrev cX6_isFull : ByteArray := prog_8_method_2_code
def yX6_isFull : MethodName := ⟨RX6, "isFull", "()Z"⟩
abbrev cX6_add : ByteArray := prog_8_method_3_code
def yX6_add : MethodName := ⟨RX6, "add", "(I)I"⟩
abbrev cX6_clear : ByteArray := prog_8_method_4_code
def yX6_clear : MethodName := ⟨RX6, "clear", "()I"⟩
abbrev cX6_signAt : ByteArray := prog_8_method_5_code
def yX6_signAt : MethodName := ⟨RX6, "signAt", "(I)I"⟩
abbrev cX6_faultAs : ByteArray := prog_8_method_6_code
def yX6_faultAs : MethodName := ⟨RX6, "faultAs", "(I)I"⟩
abbrev cX6_storyFault : ByteArray := prog_8_method_7_code
def yX6_storyFault : MethodName := ⟨RX6, "storyFault", "()I"⟩
abbrev cX6_rowFault : ByteArray := prog_8_method_8_code
def yX6_rowFault : MethodName := ⟨RX6, "rowFault", "(II)I"⟩
def RX7 : String := "StoryNest$Rings"
def TX7 : u_T := fun k => match k with
  | _ => ("StoryNest$Rings", "book", "LStoryNest$Book;", true)
def tyX7 : Nat → FieldType := fun k => match k with
  | _ => .object "StoryNest$Book"
abbrev wsX70 : List Cond := u_ws RX7 TX7 1
theorem nmX7 : ∀ a, a < 1 → ∀ b, b < 1 → a ≠ b → (TX7 a).2.1 ≠ (TX7 b).2.1 := by decide +kernel
theorem tyX7_ok : ∀ k, k < 1 → parseFieldDescriptor (TX7 k).2.2.1 = some (tyX7 k) := by decide +kernel
abbrev cX7_init : ByteArray := prog_9_method_1_code
def yX7_init : MethodName := ⟨RX7, "<init>", "(LStoryNest$Book;)V"⟩
abbrev cX7_isRing : ByteArray := prog_9_method_2_code
def yX7_isRing : MethodName := ⟨RX7, "isRing", "(II)Z"⟩
abbrev cX7_waiting : ByteArray := prog_9_method_3_code
def yX7_waiting : MethodName := ⟨RX7, "waiting", "(II)I"⟩
abbrev cX7_fewestToDrop : ByteArray := prog_9_method_4_code
def yX7_fewestToDrop : MethodName := ⟨RX7, "fewestToDrop", "(I)I"⟩
def RX8 : String := "StoryNest$Wall"
def TX8 : u_T := fun k => match k with
  | 0 => ("StoryNest$Wall", "book", "LStoryNest$Book;", true)
  | 1 => ("StoryNest$Wall", "nights", "LStoryNest$Nights;", true)
  | 2 => ("StoryNest$Wall", "pad", "LStoryNest$Pad;", true)
  | _ => ("StoryNest$Wall", "isReached", "[Z", true)
def tyX8 : Nat → FieldType := fun k => match k with
  | 0 => .object "StoryNest$Book"
  | 1 => .object "StoryNest$Nights"
  | 2 => .object "StoryNest$Pad"
  | _ => .array .boolean
abbrev wsX80 : List Cond := u_ws RX8 TX8 4
theorem nmX8 : ∀ a, a < 4 → ∀ b, b < 4 → a ≠ b → (TX8 a).2.1 ≠ (TX8 b).2.1 := by decide +kernel
theorem tyX8_ok : ∀ k, k < 4 → parseFieldDescriptor (TX8 k).2.2.1 = some (tyX8 k) := by decide +kernel
abbrev cX8_init : ByteArray := prog_10_method_1_code
def yX8_init : MethodName := ⟨RX8, "<init>", "(LStoryNest$Book;LStoryNest$Nights;LStoryNest$Pad;)V"⟩
abbrev cX8_evenings : ByteArray := prog_10_method_2_code
def yX8_evenings : MethodName := ⟨RX8, "evenings", "()J"⟩
abbrev cX8_soundsAfter : ByteArray := prog_10_method_3_code
def yX8_soundsAfter : MethodName := ⟨RX8, "soundsAfter", "(III)I"⟩
abbrev cX8_firstLetter : ByteArray := prog_10_method_4_code
def yX8_firstLetter : MethodName := ⟨RX8, "firstLetter", "(I)I"⟩
abbrev cX8_firstStory : ByteArray := prog_10_method_5_code
def yX8_firstStory : MethodName := ⟨RX8, "firstStory", "(II)I"⟩
abbrev cX8_storiesAt : ByteArray := prog_10_method_6_code
def yX8_storiesAt : MethodName := ⟨RX8, "storiesAt", "(I)I"⟩
abbrev cX8_reachFrom : ByteArray := prog_10_method_7_code
def yX8_reachFrom : MethodName := ⟨RX8, "reachFrom", "(II)I"⟩
def RX9 : String := "StoryNest"
def TX9 : u_T := fun k => match k with
  | 0 => ("StoryNest", "pad", "LStoryNest$Pad;", true)
  | 1 => ("StoryNest", "book", "LStoryNest$Book;", true)
  | 2 => ("StoryNest", "images", "[LStoryNest$Book;", true)
  | 3 => ("StoryNest", "kept", "I", false)
  | 4 => ("StoryNest", "judged", "LStoryNest$Evening;", true)
  | 5 => ("StoryNest", "nights", "LStoryNest$Nights;", true)
  | 6 => ("StoryNest", "out", "LStoryNest$Out;", true)
  | 7 => ("StoryNest", "game", "LStoryNest$Game;", true)
  | 8 => ("StoryNest", "wall", "LStoryNest$Wall;", true)
  | _ => ("StoryNest", "ring", "LStoryNest$Rings;", true)
def tyX9 : Nat → FieldType := fun k => match k with
  | 0 => .object "StoryNest$Pad"
  | 1 => .object "StoryNest$Book"
  | 2 => .array (.object "StoryNest$Book")
  | 3 => .int
  | 4 => .object "StoryNest$Evening"
  | 5 => .object "StoryNest$Nights"
  | 6 => .object "StoryNest$Out"
  | 7 => .object "StoryNest$Game"
  | 8 => .object "StoryNest$Wall"
  | _ => .object "StoryNest$Rings"
abbrev wsX90 : List Cond := u_ws RX9 TX9 10
theorem nmX9 : ∀ a, a < 10 → ∀ b, b < 10 → a ≠ b → (TX9 a).2.1 ≠ (TX9 b).2.1 := by decide +kernel
theorem tyX9_ok : ∀ k, k < 10 → parseFieldDescriptor (TX9 k).2.2.1 = some (tyX9 k) := by decide +kernel
abbrev cX9_init : ByteArray := prog_1_method_1_code
def yX9_init : MethodName := ⟨RX9, "<init>", "()V"⟩
abbrev cX9_say : ByteArray := prog_1_method_2_code
def yX9_say : MethodName := ⟨RX9, "say", "(I)I"⟩
abbrev cX9_wipe : ByteArray := prog_1_method_3_code
def yX9_wipe : MethodName := ⟨RX9, "wipe", "()I"⟩
abbrev cX9_fault : ByteArray := prog_1_method_4_code
def yX9_fault : MethodName := ⟨RX9, "fault", "(I)I"⟩
abbrev cX9_story : ByteArray := prog_1_method_5_code
def yX9_story : MethodName := ⟨RX9, "story", "(I)I"⟩
abbrev cX9_about : ByteArray := prog_1_method_6_code
def yX9_about : MethodName := ⟨RX9, "about", "(II)I"⟩
abbrev cX9_teller : ByteArray := prog_1_method_7_code
def yX9_teller : MethodName := ⟨RX9, "teller", "(II)I"⟩
abbrev cX9_knows : ByteArray := prog_1_method_8_code
def yX9_knows : MethodName := ⟨RX9, "knows", "(II)I"⟩
abbrev cX9_wait : ByteArray := prog_1_method_9_code
def yX9_wait : MethodName := ⟨RX9, "wait", "(III)I"⟩
abbrev cX9_drop : ByteArray := prog_1_method_10_code
def yX9_drop : MethodName := ⟨RX9, "drop", "(I)I"⟩
abbrev cX9_set : ByteArray := prog_1_method_11_code
def yX9_set : MethodName := ⟨RX9, "set", "(II)I"⟩
abbrev cX9_judge : ByteArray := prog_1_method_12_code
def yX9_judge : MethodName := ⟨RX9, "judge", "(I)I"⟩
abbrev cX9_evening : ByteArray := prog_1_method_13_code
def yX9_evening : MethodName := ⟨RX9, "evening", "(I)I"⟩
abbrev cX9_ways : ByteArray := prog_1_method_14_code
def yX9_ways : MethodName := ⟨RX9, "ways", "(II)J"⟩
abbrev cX9_shortest : ByteArray := prog_1_method_15_code
def yX9_shortest : MethodName := ⟨RX9, "shortest", "(III)I"⟩
abbrev cX9_ends : ByteArray := prog_1_method_16_code
def yX9_ends : MethodName := ⟨RX9, "ends", "(IIII)I"⟩
abbrev cX9_turns : ByteArray := prog_1_method_17_code
def yX9_turns : MethodName := ⟨RX9, "turns", "(IIII)I"⟩
abbrev cX9_rings : ByteArray := prog_1_method_18_code
def yX9_rings : MethodName := ⟨RX9, "rings", "()I"⟩
abbrev cX9_dropped : ByteArray := prog_1_method_19_code
def yX9_dropped : MethodName := ⟨RX9, "dropped", "(I)I"⟩
abbrev cX9_heard : ByteArray := prog_1_method_20_code
def yX9_heard : MethodName := ⟨RX9, "heard", "()J"⟩
abbrev cX9_first : ByteArray := prog_1_method_21_code
def yX9_first : MethodName := ⟨RX9, "first", "(I)I"⟩
abbrev cX9_who : ByteArray := prog_1_method_22_code
def yX9_who : MethodName := ⟨RX9, "who", "(I)I"⟩
abbrev cX9_left : ByteArray := prog_1_method_23_code
def yX9_left : MethodName := ⟨RX9, "left", "(II)I"⟩
abbrev cX9_image : ByteArray := prog_1_method_24_code
def yX9_image : MethodName := ⟨RX9, "image", "(I)I"⟩
abbrev cX9_restore : ByteArray := prog_1_method_25_code
def yX9_restore : MethodName := ⟨RX9, "restore", "(I)I"⟩
abbrev cX9_told : ByteArray := prog_1_method_26_code
def yX9_told : MethodName := ⟨RX9, "told", "(I)I"⟩
abbrev cX9_refusedEvening : ByteArray := prog_1_method_27_code
def yX9_refusedEvening : MethodName := ⟨RX9, "refusedEvening", "()I"⟩
abbrev cX9_closers : ByteArray := prog_1_method_28_code
def yX9_closers : MethodName := ⟨RX9, "closers", "(II)I"⟩
abbrev cX9_isIn : ByteArray := prog_1_method_29_code
def yX9_isIn : MethodName := ⟨RX9, "isIn", "(III)Z"⟩
abbrev cX9_isStory : ByteArray := prog_1_method_30_code
def yX9_isStory : MethodName := ⟨RX9, "isStory", "(I)Z"⟩
abbrev cX9_isTeller : ByteArray := prog_1_method_31_code
def yX9_isTeller : MethodName := ⟨RX9, "isTeller", "(I)Z"⟩
abbrev cX9_isSet : ByteArray := prog_1_method_32_code
def yX9_isSet : MethodName := ⟨RX9, "isSet", "(I)Z"⟩
abbrev cX9_isDeep : ByteArray := prog_1_method_33_code
def yX9_isDeep : MethodName := ⟨RX9, "isDeep", "(I)Z"⟩
abbrev cX9_isStoryOf : ByteArray := prog_1_method_34_code
def yX9_isStoryOf : MethodName := ⟨RX9, "isStoryOf", "(II)Z"⟩
def RX10 : String := "StoryNestModel"
def TX10 : u_T := fun k => match k with
  | 0 => ("StoryNestModel", "rowOf", "[I", true)
  | 1 => ("StoryNestModel", "codeOf", "[I", true)
  | 2 => ("StoryNestModel", "many", "[I", true)
  | 3 => ("StoryNestModel", "minutes", "[I", true)
  | 4 => ("StoryNestModel", "gates", "[I", true)
  | 5 => ("StoryNestModel", "tellers", "[I", true)
  | 6 => ("StoryNestModel", "known", "[I", true)
  | 7 => ("StoryNestModel", "waitOf", "[I", true)
  | 8 => ("StoryNestModel", "waitPart", "[I", true)
  | 9 => ("StoryNestModel", "waitFor", "[I", true)
  | 10 => ("StoryNestModel", "waits", "I", false)
  | 11 => ("StoryNestModel", "law", "I", false)
  | 12 => ("StoryNestModel", "breath", "I", false)
  | 13 => ("StoryNestModel", "pad", "[I", true)
  | 14 => ("StoryNestModel", "padMany", "I", false)
  | 15 => ("StoryNestModel", "told0", "[I", true)
  | 16 => ("StoryNestModel", "open", "I", false)
  | 17 => ("StoryNestModel", "badPlace", "I", false)
  | 18 => ("StoryNestModel", "badWhy", "I", false)
  | 19 => ("StoryNestModel", "deepest", "I", false)
  | 20 => ("StoryNestModel", "took", "I", false)
  | 21 => ("StoryNestModel", "waysOn", "[J", true)
  | 22 => ("StoryNestModel", "isReached", "[Z", true)
  | 23 => ("StoryNestModel", "changes", "[I", true)
  | 24 => ("StoryNestModel", "ending", "[Z", true)
  | 25 => ("StoryNestModel", "canHave", "[Z", true)
  | 26 => ("StoryNestModel", "kept", "[I", true)
  | 27 => ("StoryNestModel", "isKept", "[Z", true)
  | 28 => ("StoryNestModel", "keptAt", "I", false)
  | _ => ("StoryNestModel", "isWriting", "Z", false)
def tyX10 : Nat → FieldType := fun k => match k with
  | 0 => .array .int
  | 1 => .array .int
  | 2 => .array .int
  | 3 => .array .int
  | 4 => .array .int
  | 5 => .array .int
  | 6 => .array .int
  | 7 => .array .int
  | 8 => .array .int
  | 9 => .array .int
  | 10 => .int
  | 11 => .int
  | 12 => .int
  | 13 => .array .int
  | 14 => .int
  | 15 => .array .int
  | 16 => .int
  | 17 => .int
  | 18 => .int
  | 19 => .int
  | 20 => .int
  | 21 => .array .long
  | 22 => .array .boolean
  | 23 => .array .int
  | 24 => .array .boolean
  | 25 => .array .boolean
  | 26 => .array .int
  | 27 => .array .boolean
  | 28 => .int
  | _ => .boolean
abbrev wsX100 : List Cond := u_ws RX10 TX10 30
theorem nmX10 : ∀ a, a < 30 → ∀ b, b < 30 → a ≠ b → (TX10 a).2.1 ≠ (TX10 b).2.1 := by decide +kernel
theorem tyX10_ok : ∀ k, k < 30 → parseFieldDescriptor (TX10 k).2.2.1 = some (tyX10 k) := by decide +kernel
abbrev cX10_init : ByteArray := prog_12_method_1_code
def yX10_init : MethodName := ⟨RX10, "<init>", "()V"⟩
abbrev cX10_in : ByteArray := prog_12_method_3_code
def yX10_in : MethodName := ⟨RX10, "in", "(JJJ)Z"⟩
abbrev cX10_isStory : ByteArray := prog_12_method_4_code
def yX10_isStory : MethodName := ⟨RX10, "isStory", "(I)Z"⟩
abbrev cX10_ones : ByteArray := prog_12_method_5_code
def yX10_ones : MethodName := ⟨RX10, "ones", "(I)I"⟩
abbrev cX10_isRow : ByteArray := prog_12_method_6_code
def yX10_isRow : MethodName := ⟨RX10, "isRow", "(I)Z"⟩
abbrev cX10_setOf : ByteArray := prog_12_method_7_code
def yX10_setOf : MethodName := ⟨RX10, "setOf", "(I)I"⟩
abbrev cX10_lastOf : ByteArray := prog_12_method_8_code
def yX10_lastOf : MethodName := ⟨RX10, "lastOf", "(I)I"⟩
abbrev cX10_more : ByteArray := prog_12_method_9_code
def yX10_more : MethodName := ⟨RX10, "more", "(II)I"⟩
abbrev cX10_without : ByteArray := prog_12_method_10_code
def yX10_without : MethodName := ⟨RX10, "without", "(II)I"⟩
abbrev cX10_say : ByteArray := prog_12_method_11_code
def yX10_say : MethodName := ⟨RX10, "say", "(I)I"⟩
abbrev cX10_wipe : ByteArray := prog_12_method_12_code
def yX10_wipe : MethodName := ⟨RX10, "wipe", "()I"⟩
abbrev cX10_faultOfStory : ByteArray := prog_12_method_13_code
def yX10_faultOfStory : MethodName := ⟨RX10, "faultOfStory", "()I"⟩
abbrev cX10_faultOfRow : ByteArray := prog_12_method_14_code
def yX10_faultOfRow : MethodName := ⟨RX10, "faultOfRow", "(II)I"⟩
abbrev cX10_fault : ByteArray := prog_12_method_15_code
def yX10_fault : MethodName := ⟨RX10, "fault", "(I)I"⟩
abbrev cX10_story : ByteArray := prog_12_method_16_code
def yX10_story : MethodName := ⟨RX10, "story", "(I)I"⟩
abbrev cX10_lengthOf : ByteArray := prog_12_method_17_code
def yX10_lengthOf : MethodName := ⟨RX10, "lengthOf", "(I)I"⟩
abbrev cX10_about : ByteArray := prog_12_method_18_code
def yX10_about : MethodName := ⟨RX10, "about", "(II)I"⟩
abbrev cX10_teller : ByteArray := prog_12_method_19_code
def yX10_teller : MethodName := ⟨RX10, "teller", "(II)I"⟩
abbrev cX10_knows : ByteArray := prog_12_method_20_code
def yX10_knows : MethodName := ⟨RX10, "knows", "(II)I"⟩
abbrev cX10_wait : ByteArray := prog_12_method_21_code
def yX10_wait : MethodName := ⟨RX10, "wait", "(III)I"⟩
abbrev cX10_drop : ByteArray := prog_12_method_22_code
def yX10_drop : MethodName := ⟨RX10, "drop", "(I)I"⟩
abbrev cX10_set : ByteArray := prog_12_method_23_code
def yX10_set : MethodName := ⟨RX10, "set", "(II)I"⟩
abbrev cX10_layTold : ByteArray := prog_12_method_24_code
def yX10_layTold : MethodName := ⟨RX10, "layTold", "(I)V"⟩
abbrev cX10_lay : ByteArray := prog_12_method_25_code
def yX10_lay : MethodName := ⟨RX10, "lay", "(I)V"⟩
abbrev cX10_powerOf : ByteArray := prog_12_method_26_code
def yX10_powerOf : MethodName := ⟨RX10, "powerOf", "(I)I"⟩
abbrev cX10_standNow : ByteArray := prog_12_method_27_code
def yX10_standNow : MethodName := ⟨RX10, "standNow", "()I"⟩
abbrev cX10_isOut : ByteArray := prog_12_method_28_code
def yX10_isOut : MethodName := ⟨RX10, "isOut", "(I)Z"⟩
abbrev cX10_isAtGate : ByteArray := prog_12_method_29_code
def yX10_isAtGate : MethodName := ⟨RX10, "isAtGate", "(I)Z"⟩
abbrev cX10_mayBegin : ByteArray := prog_12_method_30_code
def yX10_mayBegin : MethodName := ⟨RX10, "mayBegin", "()Z"⟩
abbrev cX10_hasOpen : ByteArray := prog_12_method_31_code
def yX10_hasOpen : MethodName := ⟨RX10, "hasOpen", "(I)Z"⟩
abbrev cX10_isWaiting : ByteArray := prog_12_method_32_code
def yX10_isWaiting : MethodName := ⟨RX10, "isWaiting", "(III)Z"⟩
abbrev cX10_why : ByteArray := prog_12_method_33_code
def yX10_why : MethodName := ⟨RX10, "why", "(III)I"⟩
abbrev cX10_tell : ByteArray := prog_12_method_34_code
def yX10_tell : MethodName := ⟨RX10, "tell", "(I)I"⟩
abbrev cX10_partMinutes : ByteArray := prog_12_method_35_code
def yX10_partMinutes : MethodName := ⟨RX10, "partMinutes", "(I)I"⟩
abbrev cX10_goEvening : ByteArray := prog_12_method_36_code
def yX10_goEvening : MethodName := ⟨RX10, "goEvening", "()V"⟩
abbrev cX10_judge : ByteArray := prog_12_method_37_code
def yX10_judge : MethodName := ⟨RX10, "judge", "(I)I"⟩
abbrev cX10_evening : ByteArray := prog_12_method_38_code
def yX10_evening : MethodName := ⟨RX10, "evening", "(I)I"⟩
abbrev cX10_toldAll : ByteArray := prog_12_method_39_code
def yX10_toldAll : MethodName := ⟨RX10, "toldAll", "()I"⟩
abbrev cX10_canBe : ByteArray := prog_12_method_40_code
def yX10_canBe : MethodName := ⟨RX10, "canBe", "(I)Z"⟩
abbrev cX10_isWhole : ByteArray := prog_12_method_41_code
def yX10_isWhole : MethodName := ⟨RX10, "isWhole", "(I)Z"⟩
abbrev cX10_nextOf : ByteArray := prog_12_method_42_code
def yX10_nextOf : MethodName := ⟨RX10, "nextOf", "(IIIII)I"⟩
abbrev cX10_sumOf : ByteArray := prog_12_method_43_code
def yX10_sumOf : MethodName := ⟨RX10, "sumOf", "(I)I"⟩
abbrev cX10_findWays : ByteArray := prog_12_method_44_code
def yX10_findWays : MethodName := ⟨RX10, "findWays", "(III)V"⟩
abbrev cX10_waysOf : ByteArray := prog_12_method_45_code
def yX10_waysOf : MethodName := ⟨RX10, "waysOf", "(IIII)J"⟩
abbrev cX10_isSet : ByteArray := prog_12_method_46_code
def yX10_isSet : MethodName := ⟨RX10, "isSet", "(I)Z"⟩
abbrev cX10_ways : ByteArray := prog_12_method_47_code
def yX10_ways : MethodName := ⟨RX10, "ways", "(II)J"⟩
abbrev cX10_findChanges : ByteArray := prog_12_method_48_code
def yX10_findChanges : MethodName := ⟨RX10, "findChanges", "(II)V"⟩
abbrev cX10_changesBy : ByteArray := prog_12_method_49_code
def yX10_changesBy : MethodName := ⟨RX10, "changesBy", "(IIIII)I"⟩
abbrev cX10_changesOf : ByteArray := prog_12_method_50_code
def yX10_changesOf : MethodName := ⟨RX10, "changesOf", "(IIII)I"⟩
abbrev cX10_shortest : ByteArray := prog_12_method_51_code
def yX10_shortest : MethodName := ⟨RX10, "shortest", "(III)I"⟩
abbrev cX10_findReached : ByteArray := prog_12_method_52_code
def yX10_findReached : MethodName := ⟨RX10, "findReached", "(II)V"⟩
abbrev cX10_minutesNow : ByteArray := prog_12_method_53_code
def yX10_minutesNow : MethodName := ⟨RX10, "minutesNow", "()I"⟩
abbrev cX10_isOf : ByteArray := prog_12_method_54_code
def yX10_isOf : MethodName := ⟨RX10, "isOf", "(II)Z"⟩
abbrev cX10_ends : ByteArray := prog_12_method_55_code
def yX10_ends : MethodName := ⟨RX10, "ends", "(IIII)I"⟩
abbrev cX10_hasBy : ByteArray := prog_12_method_56_code
def yX10_hasBy : MethodName := ⟨RX10, "hasBy", "(III)Z"⟩
abbrev cX10_hasIt : ByteArray := prog_12_method_57_code
def yX10_hasIt : MethodName := ⟨RX10, "hasIt", "(IIII)Z"⟩
abbrev cX10_turns : ByteArray := prog_12_method_58_code
def yX10_turns : MethodName := ⟨RX10, "turns", "(IIII)I"⟩
abbrev cX10_rings : ByteArray := prog_12_method_59_code
def yX10_rings : MethodName := ⟨RX10, "rings", "()I"⟩
abbrev cX10_dropped : ByteArray := prog_12_method_60_code
def yX10_dropped : MethodName := ⟨RX10, "dropped", "(I)I"⟩
abbrev cX10_heardNext : ByteArray := prog_12_method_61_code
def yX10_heardNext : MethodName := ⟨RX10, "heardNext", "(II)I"⟩
abbrev cX10_findHeard : ByteArray := prog_12_method_62_code
def yX10_findHeard : MethodName := ⟨RX10, "findHeard", "()V"⟩
abbrev cX10_heard : ByteArray := prog_12_method_63_code
def yX10_heard : MethodName := ⟨RX10, "heard", "()J"⟩
abbrev cX10_first : ByteArray := prog_12_method_64_code
def yX10_first : MethodName := ⟨RX10, "first", "(I)I"⟩
abbrev cX10_who : ByteArray := prog_12_method_65_code
def yX10_who : MethodName := ⟨RX10, "who", "(I)I"⟩
abbrev cX10_left : ByteArray := prog_12_method_66_code
def yX10_left : MethodName := ⟨RX10, "left", "(II)I"⟩
abbrev cX10_pass : ByteArray := prog_12_method_67_code
def yX10_pass : MethodName := ⟨RX10, "pass", "(I)I"⟩
abbrev cX10_passAll : ByteArray := prog_12_method_68_code
def yX10_passAll : MethodName := ⟨RX10, "passAll", "()V"⟩
abbrev cX10_image : ByteArray := prog_12_method_69_code
def yX10_image : MethodName := ⟨RX10, "image", "(I)I"⟩
abbrev cX10_restore : ByteArray := prog_12_method_70_code
def yX10_restore : MethodName := ⟨RX10, "restore", "(I)I"⟩
abbrev cX10_told : ByteArray := prog_12_method_71_code
def yX10_told : MethodName := ⟨RX10, "told", "(I)I"⟩
def RJ6 : String := "java/lang/Integer"
def TJ6 : u_T := fun k => match k with
  | _ => ("", "", "", false)
def tyJ6 : Nat → FieldType := fun k => match k with
  | _ => .int
abbrev wsJ60 : List Cond := u_ws RJ6 TJ6 0
theorem nmJ6 : ∀ a, a < 0 → ∀ b, b < 0 → a ≠ b → (TJ6 a).2.1 ≠ (TJ6 b).2.1 := by decide +kernel
theorem tyJ6_ok : ∀ k, k < 0 → parseFieldDescriptor (TJ6 k).2.2.1 = some (tyJ6 k) := by decide +kernel
abbrev cJ6_bitCount_0f7a4 : ByteArray := prog_13_method_49_code
def yJ6_bitCount_0f7a4 : MethodName := ⟨RJ6, "bitCount", "(I)I"⟩
def RJ9 : String := "java/lang/Math"
def TJ9 : u_T := fun k => match k with
  | _ => ("", "", "", false)
def tyJ9 : Nat → FieldType := fun k => match k with
  | _ => .int
abbrev wsJ90 : List Cond := u_ws RJ9 TJ9 0
theorem nmJ9 : ∀ a, a < 0 → ∀ b, b < 0 → a ≠ b → (TJ9 a).2.1 ≠ (TJ9 b).2.1 := by decide +kernel
theorem tyJ9_ok : ∀ k, k < 0 → parseFieldDescriptor (TJ9 k).2.2.1 = some (tyJ9 k) := by decide +kernel
abbrev cJ9_max_7cf53 : ByteArray := prog_14_method_65_code
def yJ9_max_7cf53 : MethodName := ⟨RJ9, "max", "(II)I"⟩
abbrev cJ9_min_7cf53 : ByteArray := prog_14_method_69_code
def yJ9_min_7cf53 : MethodName := ⟨RJ9, "min", "(II)I"⟩
def RL : String := "StoryNestLaw"
abbrev cL_law : ByteArray := code
def yL_law : MethodName := ⟨RL, "law", "([I)Z"⟩
theorem inJ6 : ∀ w ∈ wsJ60, w ∈ lw_tbl := by decide +kernel
theorem inJ9 : ∀ w ∈ wsJ90, w ∈ lw_tbl := by decide +kernel
def wsL_law_r1 : List Cond := [Cond.classLink RL 7 RX9, Cond.instantiable RX9 10, Cond.initialized RX9, Cond.classLink RL 10 RX10, Cond.instantiable RX10 30, Cond.initialized RX10, Cond.methodLink RL 9 yX9_init, Cond.instanceMethod yX9_init, Cond.code yX9_init cX9_init 2 none, Cond.methodLink RX9 1 objectInit, Cond.instanceMethod objectInit, Cond.code objectInit ⟨#[0xb1]⟩ 1 none, Cond.classLink RX9 7 RX6, Cond.instantiable RX6 2, Cond.initialized RX6, Cond.fieldLink RX9 10 "StoryNest" "pad" "LStoryNest$Pad;", Cond.classLink RX9 16 RX0, Cond.instantiable RX0 10, Cond.initialized RX0, Cond.fieldLink RX9 19 "StoryNest" "book" "LStoryNest$Book;", Cond.fieldLink RX9 23 "StoryNest" "images" "[LStoryNest$Book;", Cond.fieldLink RX9 27 "StoryNest" "kept" "I", Cond.classLink RX9 31 RX1, Cond.instantiable RX1 8]
def wsL_law_r2 : List Cond := [Cond.initialized RX1, Cond.fieldLink RX9 36 "StoryNest" "judged" "LStoryNest$Evening;", Cond.classLink RX9 40 RX4, Cond.instantiable RX4 10, Cond.initialized RX4, Cond.fieldLink RX9 45 "StoryNest" "nights" "LStoryNest$Nights;", Cond.classLink RX9 49 RX5, Cond.instantiable RX5 4, Cond.initialized RX5, Cond.fieldLink RX9 54 "StoryNest" "out" "LStoryNest$Out;", Cond.classLink RX9 58 RX2, Cond.instantiable RX2 1, Cond.initialized RX2, Cond.fieldLink RX9 63 "StoryNest" "game" "LStoryNest$Game;", Cond.classLink RX9 67 RX8, Cond.instantiable RX8 4, Cond.initialized RX8, Cond.fieldLink RX9 72 "StoryNest" "wall" "LStoryNest$Wall;", Cond.classLink RX9 76 RX7, Cond.instantiable RX7 1, Cond.initialized RX7, Cond.fieldLink RX9 79 "StoryNest" "ring" "LStoryNest$Rings;", Cond.instanceMethod yX6_init, Cond.code yX6_init cX6_init 1 none]
def wsL_law_r3 : List Cond := [Cond.methodLink RX6 3 objectInit, Cond.arrayClass .int, Cond.fieldLink RX6 9 "StoryNest$Pad" "signs" "[I", Cond.methodLink RX9 18 yX0_init, Cond.instanceMethod yX0_init, Cond.code yX0_init cX0_init 2 none, Cond.methodLink RX0 3 objectInit, Cond.fieldLink RX0 9 "StoryNest$Book" "parts" "[I", Cond.fieldLink RX0 15 "StoryNest$Book" "minutes" "[I", Cond.fieldLink RX0 18 "StoryNest$Book" "gates" "[I", Cond.fieldLink RX0 21 "StoryNest$Book" "tellers" "[I", Cond.fieldLink RX0 24 "StoryNest$Book" "known" "[I", Cond.fieldLink RX0 27 "StoryNest$Book" "waits" "[I", Cond.fieldLink RX0 30 "StoryNest$Book" "needs" "[I", Cond.fieldLink RX0 33 "StoryNest$Book" "law" "I", Cond.methodLink RX9 33 yX1_init, Cond.instanceMethod yX1_init, Cond.code yX1_init cX1_init 3 none, Cond.methodLink RX1 3 objectInit, Cond.fieldLink RX1 9 "StoryNest$Evening" "book" "LStoryNest$Book;", Cond.fieldLink RX1 15 "StoryNest$Evening" "pad" "LStoryNest$Pad;", Cond.classLink RX1 19 RX3, Cond.instantiable RX3 7, Cond.initialized RX3]
def wsL_law_r4 : List Cond := [Cond.fieldLink RX1 24 "StoryNest$Evening" "moment" "LStoryNest$Moment;", Cond.methodLink RX1 21 yX3_init, Cond.instanceMethod yX3_init, Cond.code yX3_init cX3_init 2 none, Cond.methodLink RX3 3 objectInit, Cond.fieldLink RX3 9 "StoryNest$Moment" "book" "LStoryNest$Book;", Cond.methodLink RX9 42 yX4_init, Cond.instanceMethod yX4_init, Cond.code yX4_init cX4_init 2 none, Cond.methodLink RX4 3 objectInit, Cond.fieldLink RX4 11 "StoryNest$Nights" "nights" "[I", Cond.fieldLink RX4 15 "StoryNest$Nights" "next" "[I", Cond.arrayClass .long, Cond.fieldLink RX4 18 "StoryNest$Nights" "worth" "[J", Cond.fieldLink RX4 22 "StoryNest$Nights" "slots" "[I", Cond.fieldLink RX4 25 "StoryNest$Nights" "book" "LStoryNest$Book;", Cond.classLink RX4 29 RX3, Cond.fieldLink RX4 34 "StoryNest$Nights" "moment" "LStoryNest$Moment;", Cond.methodLink RX4 31 yX3_init, Cond.methodLink RX9 51 yX5_init, Cond.instanceMethod yX5_init, Cond.code yX5_init cX5_init 3 none, Cond.methodLink RX5 3 objectInit, Cond.fieldLink RX5 9 "StoryNest$Out" "ownPrice" "[I"]
def wsL_law_r5 : List Cond := [Cond.arrayClass .boolean, Cond.fieldLink RX5 15 "StoryNest$Out" "isEnd" "[Z", Cond.fieldLink RX5 19 "StoryNest$Out" "book" "LStoryNest$Book;", Cond.fieldLink RX5 23 "StoryNest$Out" "nights" "LStoryNest$Nights;", Cond.methodLink RX9 60 yX2_init, Cond.instanceMethod yX2_init, Cond.code yX2_init cX2_init 2 none, Cond.methodLink RX2 3 objectInit, Cond.fieldLink RX2 9 "StoryNest$Game" "nights" "LStoryNest$Nights;", Cond.methodLink RX9 69 yX8_init, Cond.instanceMethod yX8_init, Cond.code yX8_init cX8_init 4 none, Cond.methodLink RX8 3 objectInit, Cond.fieldLink RX8 11 "StoryNest$Wall" "isReached" "[Z", Cond.fieldLink RX8 17 "StoryNest$Wall" "book" "LStoryNest$Book;", Cond.fieldLink RX8 21 "StoryNest$Wall" "nights" "LStoryNest$Nights;", Cond.fieldLink RX8 25 "StoryNest$Wall" "pad" "LStoryNest$Pad;", Cond.methodLink RX9 78 yX7_init, Cond.instanceMethod yX7_init, Cond.code yX7_init cX7_init 2 none, Cond.methodLink RX7 3 objectInit, Cond.fieldLink RX7 9 "StoryNest$Rings" "book" "LStoryNest$Book;", Cond.methodLink RL 12 yX10_init, Cond.instanceMethod yX10_init]
def wsL_law_r6 : List Cond := [Cond.code yX10_init cX10_init 3 none, Cond.methodLink RX10 1 objectInit, Cond.fieldLink RX10 7 "StoryNestModel" "rowOf" "[I", Cond.fieldLink RX10 13 "StoryNestModel" "codeOf" "[I", Cond.fieldLink RX10 16 "StoryNestModel" "many" "[I", Cond.fieldLink RX10 19 "StoryNestModel" "minutes" "[I", Cond.fieldLink RX10 22 "StoryNestModel" "gates" "[I", Cond.fieldLink RX10 25 "StoryNestModel" "tellers" "[I", Cond.fieldLink RX10 28 "StoryNestModel" "known" "[I", Cond.fieldLink RX10 31 "StoryNestModel" "waitOf" "[I", Cond.fieldLink RX10 34 "StoryNestModel" "waitPart" "[I", Cond.fieldLink RX10 37 "StoryNestModel" "waitFor" "[I", Cond.fieldLink RX10 40 "StoryNestModel" "pad" "[I", Cond.fieldLink RX10 43 "StoryNestModel" "told0" "[I", Cond.constant RX10 46 (40625), Cond.fieldLink RX10 47 "StoryNestModel" "waysOn" "[J", Cond.fieldLink RX10 51 "StoryNestModel" "isReached" "[Z", Cond.constant RX10 55 (203125), Cond.fieldLink RX10 56 "StoryNestModel" "changes" "[I", Cond.fieldLink RX10 59 "StoryNestModel" "ending" "[Z", Cond.fieldLink RX10 62 "StoryNestModel" "canHave" "[Z", Cond.fieldLink RX10 65 "StoryNestModel" "kept" "[I", Cond.fieldLink RX10 68 "StoryNestModel" "isKept" "[Z", Cond.methodLink RX10 71 yX10_isRow]
def wsL_law_r7 : List Cond := [Cond.static yX10_isRow, Cond.code yX10_isRow cX10_isRow 5 (some .boolean), Cond.methodLink RL 13 yX9_say, Cond.instanceMethod yX9_say, Cond.selects RX9 yX9_say yX9_say, Cond.code yX9_say cX9_say 2 (some .int), Cond.methodLink RX9 83 yX6_isFull, Cond.instanceMethod yX6_isFull, Cond.selects RX6 yX6_isFull yX6_isFull, Cond.code yX6_isFull cX6_isFull 1 (some .boolean), Cond.fieldLink RX6 15 "StoryNest$Pad" "size" "I", Cond.methodLink RX9 87 yX6_add, Cond.instanceMethod yX6_add, Cond.selects RX6 yX6_add yX6_add, Cond.code yX6_add cX6_add 2 (some .int), Cond.methodLink RX6 19 yX6_isFull, Cond.methodLink RL 17 yX10_say, Cond.instanceMethod yX10_say, Cond.selects RX10 yX10_say yX10_say, Cond.code yX10_say cX10_say 2 (some .int), Cond.constantLong RX10 81 (33), Cond.constantLong RX10 83 (126), Cond.fieldLink RX10 85 "StoryNestModel" "padMany" "I", Cond.methodLink RX10 77 yX10_in]
def wsL_law_r8 : List Cond := [Cond.static yX10_in, Cond.code yX10_in cX10_in 6 (some .boolean), Cond.methodLink RL 18 yX9_wipe, Cond.instanceMethod yX9_wipe, Cond.selects RX9 yX9_wipe yX9_wipe, Cond.code yX9_wipe cX9_wipe 1 (some .int), Cond.methodLink RX9 91 yX6_clear, Cond.instanceMethod yX6_clear, Cond.selects RX6 yX6_clear yX6_clear, Cond.code yX6_clear cX6_clear 2 (some .int), Cond.methodLink RL 22 yX10_wipe, Cond.instanceMethod yX10_wipe, Cond.selects RX10 yX10_wipe yX10_wipe, Cond.code yX10_wipe cX10_wipe 2 (some .int), Cond.methodLink RL 23 yX9_fault, Cond.instanceMethod yX9_fault, Cond.selects RX9 yX9_fault yX9_fault, Cond.code yX9_fault cX9_fault 2 (some .int), Cond.methodLink RX9 95 yX9_isIn, Cond.static yX9_isIn, Cond.code yX9_isIn cX9_isIn 3 (some .boolean), Cond.methodLink RX9 99 yX6_faultAs, Cond.instanceMethod yX6_faultAs, Cond.selects RX6 yX6_faultAs yX6_faultAs]
def wsL_law_r9 : List Cond := [Cond.code yX6_faultAs cX6_faultAs 2 (some .int), Cond.methodLink RX6 27 yX6_storyFault, Cond.instanceMethod yX6_storyFault, Cond.selects RX6 yX6_storyFault yX6_storyFault, Cond.code yX6_storyFault cX6_storyFault 5 (some .int), Cond.methodLink RX6 31 yX6_rowFault, Cond.instanceMethod yX6_rowFault, Cond.selects RX6 yX6_rowFault yX6_rowFault, Cond.code yX6_rowFault cX6_rowFault 4 (some .int), Cond.methodLink RL 26 yX10_fault, Cond.instanceMethod yX10_fault, Cond.selects RX10 yX10_fault yX10_fault, Cond.code yX10_fault cX10_fault 2 (some .int), Cond.methodLink RX10 93 yX10_faultOfStory, Cond.instanceMethod yX10_faultOfStory, Cond.selects RX10 yX10_faultOfStory yX10_faultOfStory, Cond.code yX10_faultOfStory cX10_faultOfStory 5 (some .int), Cond.constantLong RX10 89 (49), Cond.constantLong RX10 91 (57), Cond.methodLink RX10 97 yX10_faultOfRow, Cond.instanceMethod yX10_faultOfRow, Cond.selects RX10 yX10_faultOfRow yX10_faultOfRow, Cond.code yX10_faultOfRow cX10_faultOfRow 4 (some .int), Cond.methodLink RL 27 yX9_story]
def wsL_law_r10 : List Cond := [Cond.instanceMethod yX9_story, Cond.selects RX9 yX9_story yX9_story, Cond.code yX9_story cX9_story 2 (some .int), Cond.methodLink RX9 102 yX9_isStory, Cond.static yX9_isStory, Cond.code yX9_isStory cX9_isStory 1 (some .boolean), Cond.methodLink RX9 106 yX0_write, Cond.instanceMethod yX0_write, Cond.selects RX0 yX0_write yX0_write, Cond.code yX0_write cX0_write 7 none, Cond.methodLink RX0 48 yX6_signAt, Cond.instanceMethod yX6_signAt, Cond.selects RX6 yX6_signAt yX6_signAt, Cond.code yX6_signAt cX6_signAt 2 (some .int), Cond.methodLink RX0 52 yX0_dropWaitsBeyond, Cond.instanceMethod yX0_dropWaitsBeyond, Cond.selects RX0 yX0_dropWaitsBeyond yX0_dropWaitsBeyond, Cond.code yX0_dropWaitsBeyond cX0_dropWaitsBeyond 6 none, Cond.fieldLink RX0 37 "StoryNest$Book" "waitCount" "I", Cond.methodLink RX0 67 yX0_storyOf, Cond.instanceMethod yX0_storyOf, Cond.selects RX0 yX0_storyOf yX0_storyOf, Cond.code yX0_storyOf cX0_storyOf 2 (some .int), Cond.methodLink RX0 70 yX0_partOf]
def wsL_law_r11 : List Cond := [Cond.instanceMethod yX0_partOf, Cond.selects RX0 yX0_partOf yX0_partOf, Cond.code yX0_partOf cX0_partOf 2 (some .int), Cond.methodLink RX0 64 yX0_gatherNeeds, Cond.instanceMethod yX0_gatherNeeds, Cond.selects RX0 yX0_gatherNeeds yX0_gatherNeeds, Cond.code yX0_gatherNeeds cX0_gatherNeeds 2 none, Cond.methodLink RX0 73 yX0_otherOf, Cond.instanceMethod yX0_otherOf, Cond.selects RX0 yX0_otherOf yX0_otherOf, Cond.code yX0_otherOf cX0_otherOf 2 (some .int), Cond.methodLink RX9 110 yX4_forget, Cond.instanceMethod yX4_forget, Cond.selects RX4 yX4_forget yX4_forget, Cond.code yX4_forget cX4_forget 1 none, Cond.fieldLink RX4 38 "StoryNest$Nights" "set" "I", Cond.methodLink RL 30 yX10_story, Cond.instanceMethod yX10_story, Cond.selects RX10 yX10_story yX10_story, Cond.code yX10_story cX10_story 3 (some .int), Cond.fieldLink RX10 104 "StoryNestModel" "waits" "I", Cond.methodLink RX10 101 yX10_isStory, Cond.static yX10_isStory, Cond.code yX10_isStory cX10_isStory 1 (some .boolean)]
def wsL_law_r12 : List Cond := [Cond.constantLong RX10 75 (3), Cond.methodLink RX10 107 yX10_drop, Cond.instanceMethod yX10_drop, Cond.selects RX10 yX10_drop yX10_drop, Cond.code yX10_drop cX10_drop 3 (some .int), Cond.methodLink RL 31 yX9_about, Cond.instanceMethod yX9_about, Cond.selects RX9 yX9_about yX9_about, Cond.code yX9_about cX9_about 4 (some .int), Cond.methodLink RX9 117 yX0_minutesAt, Cond.instanceMethod yX0_minutesAt, Cond.selects RX0 yX0_minutesAt yX0_minutesAt, Cond.code yX0_minutesAt cX0_minutesAt 3 (some .int), Cond.methodLink RX9 121 yX0_minutesOf, Cond.instanceMethod yX0_minutesOf, Cond.selects RX0 yX0_minutesOf yX0_minutesOf, Cond.code yX0_minutesOf cX0_minutesOf 5 (some .int), Cond.methodLink RX0 60 yX0_minutesAt, Cond.methodLink RL 35 yX10_about, Cond.instanceMethod yX10_about, Cond.selects RX10 yX10_about yX10_about, Cond.code yX10_about cX10_about 3 (some .int), Cond.constantLong RX10 111 (10), Cond.constantLong RX10 113 (13)]
def wsL_law_r13 : List Cond := [Cond.methodLink RX10 115 yX10_lengthOf, Cond.instanceMethod yX10_lengthOf, Cond.selects RX10 yX10_lengthOf yX10_lengthOf, Cond.code yX10_lengthOf cX10_lengthOf 4 (some .int), Cond.methodLink RL 36 yX9_teller, Cond.instanceMethod yX9_teller, Cond.selects RX9 yX9_teller yX9_teller, Cond.code yX9_teller cX9_teller 4 (some .int), Cond.methodLink RX9 127 yX9_isTeller, Cond.static yX9_isTeller, Cond.code yX9_isTeller cX9_isTeller 1 (some .boolean), Cond.methodLink RL 39 yX10_teller, Cond.instanceMethod yX10_teller, Cond.selects RX10 yX10_teller yX10_teller, Cond.code yX10_teller cX10_teller 4 (some .int), Cond.methodLink RL 40 yX9_knows, Cond.instanceMethod yX9_knows, Cond.selects RX9 yX9_knows yX9_knows, Cond.code yX9_knows cX9_knows 4 (some .int), Cond.methodLink RL 43 yX10_knows, Cond.instanceMethod yX10_knows, Cond.selects RX10 yX10_knows yX10_knows, Cond.code yX10_knows cX10_knows 4 (some .int), Cond.constantLong RX10 118 (15)]
def wsL_law_r14 : List Cond := [Cond.methodLink RL 44 yX9_wait, Cond.instanceMethod yX9_wait, Cond.selects RX9 yX9_wait yX9_wait, Cond.code yX9_wait cX9_wait 4 (some .int), Cond.methodLink RX9 136 yX0_hasWait, Cond.instanceMethod yX0_hasWait, Cond.selects RX0 yX0_hasWait yX0_hasWait, Cond.code yX0_hasWait cX0_hasWait 5 (some .boolean), Cond.methodLink RX9 142 yX0_addWait, Cond.instanceMethod yX0_addWait, Cond.selects RX0 yX0_addWait yX0_addWait, Cond.code yX0_addWait cX0_addWait 5 (some .int), Cond.methodLink RL 48 yX10_wait, Cond.instanceMethod yX10_wait, Cond.selects RX10 yX10_wait yX10_wait, Cond.code yX10_wait cX10_wait 5 (some .int), Cond.methodLink RL 49 yX9_drop, Cond.instanceMethod yX9_drop, Cond.selects RX9 yX9_drop yX9_drop, Cond.code yX9_drop cX9_drop 2 (some .int), Cond.methodLink RX9 146 yX0_removeWait, Cond.instanceMethod yX0_removeWait, Cond.selects RX0 yX0_removeWait yX0_removeWait, Cond.code yX0_removeWait cX0_removeWait 3 (some .int)]
def wsL_law_r15 : List Cond := [Cond.methodLink RL 52 yX10_drop, Cond.methodLink RL 53 yX9_set, Cond.instanceMethod yX9_set, Cond.selects RX9 yX9_set yX9_set, Cond.code yX9_set cX9_set 4 (some .int), Cond.methodLink RL 56 yX10_set, Cond.instanceMethod yX10_set, Cond.selects RX10 yX10_set yX10_set, Cond.code yX10_set cX10_set 4 (some .int), Cond.constantLong RX10 120 (2), Cond.constantLong RX10 122 (9), Cond.fieldLink RX10 124 "StoryNestModel" "law" "I", Cond.fieldLink RX10 127 "StoryNestModel" "breath" "I", Cond.methodLink RL 57 yX9_judge, Cond.instanceMethod yX9_judge, Cond.selects RX9 yX9_judge yX9_judge, Cond.code yX9_judge cX9_judge 2 (some .int), Cond.methodLink RX9 155 yX1_isGood, Cond.instanceMethod yX1_isGood, Cond.selects RX1 yX1_isGood yX1_isGood, Cond.code yX1_isGood cX1_isGood 4 (some .boolean), Cond.fieldLink RX1 28 "StoryNest$Evening" "place" "I", Cond.fieldLink RX1 32 "StoryNest$Evening" "why" "I", Cond.fieldLink RX1 35 "StoryNest$Evening" "deep" "I"]
def wsL_law_r16 : List Cond := [Cond.fieldLink RX1 38 "StoryNest$Evening" "minutes" "I", Cond.fieldLink RX1 69 "StoryNest$Evening" "open" "I", Cond.methodLink RX1 41 yX3_look, Cond.instanceMethod yX3_look, Cond.selects RX3 yX3_look yX3_look, Cond.code yX3_look cX3_look 5 none, Cond.fieldLink RX3 19 "StoryNest$Moment" "night" "I", Cond.fieldLink RX3 23 "StoryNest$Moment" "open" "I", Cond.fieldLink RX3 26 "StoryNest$Moment" "out" "I", Cond.fieldLink RX3 29 "StoryNest$Moment" "busyTellers" "I", Cond.fieldLink RX3 51 "StoryNest$Moment" "mayGoOn" "I", Cond.fieldLink RX3 54 "StoryNest$Moment" "mayBegin" "Z", Cond.methodLink RX3 15 yX3_partsTold, Cond.static yX3_partsTold, Cond.code yX3_partsTold cX3_partsTold 2 (some .int), Cond.methodLink RX3 47 yX3_lowestOfRow, Cond.instanceMethod yX3_lowestOfRow, Cond.selects RX3 yX3_lowestOfRow yX3_lowestOfRow, Cond.code yX3_lowestOfRow cX3_lowestOfRow 2 (some .int), Cond.methodLink RX1 50 yX6_signAt, Cond.methodLink RX1 58 yX3_whyNot, Cond.instanceMethod yX3_whyNot, Cond.selects RX3 yX3_whyNot yX3_whyNot, Cond.code yX3_whyNot cX3_whyNot 4 (some .int)]
def wsL_law_r17 : List Cond := [Cond.methodLink RX3 58 yX3_waitsFor, Cond.instanceMethod yX3_waitsFor, Cond.selects RX3 yX3_waitsFor yX3_waitsFor, Cond.code yX3_waitsFor cX3_waitsFor 4 (some .int), Cond.methodLink RX1 62 yX1_tellPart, Cond.instanceMethod yX1_tellPart, Cond.selects RX1 yX1_tellPart yX1_tellPart, Cond.code yX1_tellPart cX1_tellPart 3 none, Cond.methodLink RX1 73 Lib.Math.max.name, Cond.static Lib.Math.max.name, Cond.initialized "java/lang/Math", Cond.code Lib.Math.max.name Lib.Math.max.code 2 (some .int), Cond.methodLink RX1 70 yX3_deepWith, Cond.instanceMethod yX3_deepWith, Cond.selects RX3 yX3_deepWith yX3_deepWith, Cond.code yX3_deepWith cX3_deepWith 2 (some .int), Cond.methodLink RX3 64 yJ6_bitCount_0f7a4, Cond.static yJ6_bitCount_0f7a4, Cond.initialized RJ6, Cond.code yJ6_bitCount_0f7a4 cJ6_bitCount_0f7a4 1 (some .int), Cond.constant RJ6 265 (1431655765), Cond.constant RJ6 266 (858993459), Cond.constant RJ6 267 (252645135), Cond.methodLink RX1 81 yX3_partsTold]
def wsL_law_r18 : List Cond := [Cond.methodLink RX1 84 yX0_minutesAt, Cond.methodLink RX1 96 yX3_after, Cond.instanceMethod yX3_after, Cond.selects RX3 yX3_after yX3_after, Cond.code yX3_after cX3_after 4 (some .int), Cond.methodLink RX3 70 yX3_rowAfter, Cond.instanceMethod yX3_rowAfter, Cond.selects RX3 yX3_rowAfter yX3_rowAfter, Cond.code yX3_rowAfter cX3_rowAfter 6 (some .int), Cond.methodLink RL 60 yX10_judge, Cond.instanceMethod yX10_judge, Cond.selects RX10 yX10_judge yX10_judge, Cond.code yX10_judge cX10_judge 2 (some .int), Cond.fieldLink RX10 175 "StoryNestModel" "badPlace" "I", Cond.fieldLink RX10 178 "StoryNestModel" "badWhy" "I", Cond.methodLink RX10 197 yX10_fault, Cond.methodLink RX10 200 yX10_goEvening, Cond.instanceMethod yX10_goEvening, Cond.selects RX10 yX10_goEvening yX10_goEvening, Cond.code yX10_goEvening cX10_goEvening 6 none, Cond.fieldLink RX10 181 "StoryNestModel" "deepest" "I", Cond.fieldLink RX10 184 "StoryNestModel" "took" "I", Cond.methodLink RX10 172 yX10_lay, Cond.instanceMethod yX10_lay]
def wsL_law_r19 : List Cond := [Cond.selects RX10 yX10_lay yX10_lay, Cond.code yX10_lay cX10_lay 2 none, Cond.fieldLink RX10 134 "StoryNestModel" "open" "I", Cond.methodLink RX10 130 yX10_layTold, Cond.instanceMethod yX10_layTold, Cond.selects RX10 yX10_layTold yX10_layTold, Cond.code yX10_layTold cX10_layTold 4 none, Cond.methodLink RX10 187 yX10_why, Cond.instanceMethod yX10_why, Cond.selects RX10 yX10_why yX10_why, Cond.code yX10_why cX10_why 5 (some .int), Cond.methodLink RX10 149 yX10_isOut, Cond.instanceMethod yX10_isOut, Cond.selects RX10 yX10_isOut yX10_isOut, Cond.code yX10_isOut cX10_isOut 2 (some .boolean), Cond.methodLink RX10 140 yX10_lastOf, Cond.static yX10_lastOf, Cond.code yX10_lastOf cX10_lastOf 3 (some .int), Cond.methodLink RX10 152 yX10_isWaiting, Cond.instanceMethod yX10_isWaiting, Cond.selects RX10 yX10_isWaiting yX10_isWaiting, Cond.code yX10_isWaiting cX10_isWaiting 7 (some .boolean), Cond.methodLink RX10 156 yX10_mayBegin, Cond.instanceMethod yX10_mayBegin]
def wsL_law_r20 : List Cond := [Cond.selects RX10 yX10_mayBegin yX10_mayBegin, Cond.code yX10_mayBegin cX10_mayBegin 4 (some .boolean), Cond.methodLink RX10 143 yX10_isAtGate, Cond.instanceMethod yX10_isAtGate, Cond.selects RX10 yX10_isAtGate yX10_isAtGate, Cond.code yX10_isAtGate cX10_isAtGate 2 (some .boolean), Cond.methodLink RX10 146 yX10_setOf, Cond.static yX10_setOf, Cond.code yX10_setOf cX10_setOf 3 (some .int), Cond.methodLink RX10 160 yX10_hasOpen, Cond.instanceMethod yX10_hasOpen, Cond.selects RX10 yX10_hasOpen yX10_hasOpen, Cond.code yX10_hasOpen cX10_hasOpen 5 (some .boolean), Cond.methodLink RX10 191 yX10_partMinutes, Cond.instanceMethod yX10_partMinutes, Cond.selects RX10 yX10_partMinutes yX10_partMinutes, Cond.code yX10_partMinutes cX10_partMinutes 2 (some .int), Cond.methodLink RX10 194 yX10_tell, Cond.instanceMethod yX10_tell, Cond.selects RX10 yX10_tell yX10_tell, Cond.code yX10_tell cX10_tell 3 (some .int), Cond.methodLink RX10 163 yX10_more, Cond.static yX10_more, Cond.code yX10_more cX10_more 3 (some .int)]
def wsL_law_r21 : List Cond := [Cond.methodLink RX10 166 yX10_ones, Cond.static yX10_ones, Cond.code yX10_ones cX10_ones 3 (some .int), Cond.methodLink RX10 169 yX10_without, Cond.static yX10_without, Cond.code yX10_without cX10_without 5 (some .int), Cond.methodLink RL 61 yX9_evening, Cond.instanceMethod yX9_evening, Cond.selects RX9 yX9_evening yX9_evening, Cond.code yX9_evening cX9_evening 3 (some .int), Cond.methodLink RX9 164 yX9_refusedEvening, Cond.instanceMethod yX9_refusedEvening, Cond.selects RX9 yX9_refusedEvening yX9_refusedEvening, Cond.code yX9_refusedEvening cX9_refusedEvening 1 (some .int), Cond.methodLink RL 64 yX10_evening, Cond.instanceMethod yX10_evening, Cond.selects RX10 yX10_evening yX10_evening, Cond.code yX10_evening cX10_evening 2 (some .int), Cond.methodLink RL 65 yX9_ways, Cond.instanceMethod yX9_ways, Cond.selects RX9 yX9_ways yX9_ways, Cond.code yX9_ways cX9_ways 3 (some .long), Cond.constantLong RX9 182 (-2), Cond.methodLink RX9 176 yX9_isSet]
def wsL_law_r22 : List Cond := [Cond.static yX9_isSet, Cond.code yX9_isSet cX9_isSet 1 (some .boolean), Cond.methodLink RX9 179 yX9_isDeep, Cond.static yX9_isDeep, Cond.code yX9_isDeep cX9_isDeep 1 (some .boolean), Cond.methodLink RX9 184 yX4_gather, Cond.instanceMethod yX4_gather, Cond.selects RX4 yX4_gather yX4_gather, Cond.code yX4_gather cX4_gather 4 none, Cond.fieldLink RX4 42 "StoryNest$Nights" "deep" "I", Cond.fieldLink RX4 52 "StoryNest$Nights" "size" "I", Cond.methodLink RX4 45 yX4_beginRound, Cond.instanceMethod yX4_beginRound, Cond.selects RX4 yX4_beginRound yX4_beginRound, Cond.code yX4_beginRound cX4_beginRound 2 none, Cond.fieldLink RX4 59 "StoryNest$Nights" "round" "I", Cond.constant RX4 62 (500000), Cond.methodLink RX4 48 yX4_nodeOf, Cond.instanceMethod yX4_nodeOf, Cond.selects RX4 yX4_nodeOf yX4_nodeOf, Cond.code yX4_nodeOf cX4_nodeOf 6 (some .int), Cond.constant RX4 80 (-1640531535), Cond.methodLink RX4 81 yX4_addNode, Cond.instanceMethod yX4_addNode]
def wsL_law_r23 : List Cond := [Cond.selects RX4 yX4_addNode yX4_addNode, Cond.code yX4_addNode cX4_addNode 4 (some .int), Cond.methodLink RX4 55 yX4_expand, Cond.instanceMethod yX4_expand, Cond.selects RX4 yX4_expand yX4_expand, Cond.code yX4_expand cX4_expand 3 none, Cond.methodLink RX4 63 yX3_look, Cond.methodLink RX4 66 yX4_canCome, Cond.instanceMethod yX4_canCome, Cond.selects RX4 yX4_canCome yX4_canCome, Cond.code yX4_canCome cX4_canCome 2 (some .boolean), Cond.methodLink RX4 73 yX3_deepWith, Cond.methodLink RX4 76 yX3_whyNot, Cond.methodLink RX4 70 yX3_after, Cond.methodLink RX9 188 yX5_evenings, Cond.instanceMethod yX5_evenings, Cond.selects RX5 yX5_evenings yX5_evenings, Cond.code yX5_evenings cX5_evenings 6 (some .long), Cond.methodLink RX5 33 yX4_isAllOut, Cond.instanceMethod yX4_isAllOut, Cond.selects RX4 yX4_isAllOut yX4_isAllOut, Cond.code yX4_isAllOut cX4_isAllOut 3 (some .boolean), Cond.methodLink RX4 96 yX4_isOut, Cond.instanceMethod yX4_isOut]
def wsL_law_r24 : List Cond := [Cond.selects RX4 yX4_isOut yX4_isOut, Cond.code yX4_isOut cX4_isOut 3 (some .boolean), Cond.methodLink RX4 88 yX3_partsTold, Cond.methodLink RX5 37 yX4_nodeAfter, Cond.instanceMethod yX4_nodeAfter, Cond.selects RX4 yX4_nodeAfter yX4_nodeAfter, Cond.code yX4_nodeAfter cX4_nodeAfter 4 (some .int), Cond.methodLink RL 69 yX10_ways, Cond.instanceMethod yX10_ways, Cond.selects RX10 yX10_ways yX10_ways, Cond.code yX10_ways cX10_ways 3 (some .long), Cond.constantLong RX10 226 (4), Cond.constantLong RX10 228 (-2), Cond.methodLink RX10 223 yX10_isSet, Cond.static yX10_isSet, Cond.code yX10_isSet cX10_isSet 1 (some .boolean), Cond.methodLink RX10 230 yX10_findWays, Cond.instanceMethod yX10_findWays, Cond.selects RX10 yX10_findWays yX10_findWays, Cond.code yX10_findWays cX10_findWays 8 none, Cond.methodLink RX10 206 yX10_sumOf, Cond.static yX10_sumOf, Cond.code yX10_sumOf cX10_sumOf 1 (some .int), Cond.methodLink RX10 209 yX10_waysOf]
def wsL_law_r25 : List Cond := [Cond.instanceMethod yX10_waysOf, Cond.selects RX10 yX10_waysOf yX10_waysOf, Cond.code yX10_waysOf cX10_waysOf 9 (some .long), Cond.methodLink RX10 213 yX10_canBe, Cond.instanceMethod yX10_canBe, Cond.selects RX10 yX10_canBe yX10_canBe, Cond.code yX10_canBe cX10_canBe 5 (some .boolean), Cond.methodLink RX10 216 yX10_isWhole, Cond.instanceMethod yX10_isWhole, Cond.selects RX10 yX10_isWhole yX10_isWhole, Cond.code yX10_isWhole cX10_isWhole 4 (some .boolean), Cond.methodLink RX10 219 yX10_nextOf, Cond.instanceMethod yX10_nextOf, Cond.selects RX10 yX10_nextOf yX10_nextOf, Cond.code yX10_nextOf cX10_nextOf 6 (some .int), Cond.methodLink RX10 203 yX10_standNow, Cond.instanceMethod yX10_standNow, Cond.selects RX10 yX10_standNow yX10_standNow, Cond.code yX10_standNow cX10_standNow 3 (some .int), Cond.methodLink RX10 137 yX10_powerOf, Cond.static yX10_powerOf, Cond.code yX10_powerOf cX10_powerOf 1 (some .int), Cond.methodLink RL 70 yX9_shortest, Cond.instanceMethod yX9_shortest]
def wsL_law_r26 : List Cond := [Cond.selects RX9 yX9_shortest yX9_shortest, Cond.code yX9_shortest cX9_shortest 4 (some .int), Cond.methodLink RX9 192 yX5_leastMinutes, Cond.instanceMethod yX5_leastMinutes, Cond.selects RX5 yX5_leastMinutes yX5_leastMinutes, Cond.code yX5_leastMinutes cX5_leastMinutes 4 (some .int), Cond.methodLink RX5 45 yX5_priceAll, Cond.instanceMethod yX5_priceAll, Cond.selects RX5 yX5_priceAll yX5_priceAll, Cond.code yX5_priceAll cX5_priceAll 2 none, Cond.methodLink RX5 68 yX5_packedPrices, Cond.instanceMethod yX5_packedPrices, Cond.selects RX5 yX5_packedPrices yX5_packedPrices, Cond.code yX5_packedPrices cX5_packedPrices 6 (some .long), Cond.methodLink RX5 76 Lib.Math.min.name, Cond.static Lib.Math.min.name, Cond.code Lib.Math.min.name Lib.Math.min.code 2 (some .int), Cond.methodLink RX5 72 yX5_priceOf, Cond.instanceMethod yX5_priceOf, Cond.selects RX5 yX5_priceOf yX5_priceOf, Cond.code yX5_priceOf cX5_priceOf 7 (some .int), Cond.constant RX5 84 (65535), Cond.methodLink RX5 48 yX5_leastPrice, Cond.instanceMethod yX5_leastPrice]
def wsL_law_r27 : List Cond := [Cond.selects RX5 yX5_leastPrice yX5_leastPrice, Cond.code yX5_leastPrice cX5_leastPrice 5 (some .int), Cond.methodLink RX5 59 yX0_minutesOf, Cond.methodLink RX9 195 yX5_leastLetter, Cond.instanceMethod yX5_leastLetter, Cond.selects RX5 yX5_leastLetter yX5_leastLetter, Cond.code yX5_leastLetter cX5_leastLetter 6 (some .int), Cond.methodLink RX5 62 yX5_cheapestStory, Cond.instanceMethod yX5_cheapestStory, Cond.selects RX5 yX5_cheapestStory yX5_cheapestStory, Cond.code yX5_cheapestStory cX5_cheapestStory 5 (some .int), Cond.methodLink RL 73 yX10_shortest, Cond.instanceMethod yX10_shortest, Cond.selects RX10 yX10_shortest yX10_shortest, Cond.code yX10_shortest cX10_shortest 11 (some .int), Cond.methodLink RX10 241 yX10_findChanges, Cond.instanceMethod yX10_findChanges, Cond.selects RX10 yX10_findChanges yX10_findChanges, Cond.code yX10_findChanges cX10_findChanges 8 none, Cond.methodLink RX10 234 yX10_changesOf, Cond.instanceMethod yX10_changesOf, Cond.selects RX10 yX10_changesOf yX10_changesOf, Cond.code yX10_changesOf cX10_changesOf 8 (some .int), Cond.methodLink RX10 238 yX10_changesBy]
def wsL_law_r28 : List Cond := [Cond.instanceMethod yX10_changesBy, Cond.selects RX10 yX10_changesBy yX10_changesBy, Cond.code yX10_changesBy cX10_changesBy 7 (some .int), Cond.methodLink RL 74 yX9_ends, Cond.instanceMethod yX9_ends, Cond.selects RX9 yX9_ends yX9_ends, Cond.code yX9_ends cX9_ends 5 (some .int), Cond.methodLink RX9 198 yX9_isStoryOf, Cond.static yX9_isStoryOf, Cond.code yX9_isStoryOf cX9_isStoryOf 2 (some .boolean), Cond.methodLink RX9 202 yX5_markEnds, Cond.instanceMethod yX5_markEnds, Cond.selects RX5 yX5_markEnds yX5_markEnds, Cond.code yX5_markEnds cX5_markEnds 4 none, Cond.methodLink RX5 85 yX5_evenings, Cond.methodLink RX5 89 yX4_isOut, Cond.methodLink RX5 93 yX4_minutesAt, Cond.instanceMethod yX4_minutesAt, Cond.selects RX4 yX4_minutesAt yX4_minutesAt, Cond.code yX4_minutesAt cX4_minutesAt 4 (some .int), Cond.methodLink RX4 100 yX0_minutesOf, Cond.methodLink RX5 97 yX5_markMinute, Cond.instanceMethod yX5_markMinute, Cond.selects RX5 yX5_markMinute yX5_markMinute]
def wsL_law_r29 : List Cond := [Cond.code yX5_markMinute cX5_markMinute 2 none, Cond.methodLink RX9 206 yX5_marked, Cond.instanceMethod yX5_marked, Cond.selects RX5 yX5_marked yX5_marked, Cond.code yX5_marked cX5_marked 3 (some .int), Cond.methodLink RX9 209 yX5_markedMinute, Cond.instanceMethod yX5_markedMinute, Cond.selects RX5 yX5_markedMinute yX5_markedMinute, Cond.code yX5_markedMinute cX5_markedMinute 4 (some .int), Cond.methodLink RL 78 yX10_ends, Cond.instanceMethod yX10_ends, Cond.selects RX10 yX10_ends yX10_ends, Cond.code yX10_ends cX10_ends 7 (some .int), Cond.methodLink RX10 245 yX10_isOf, Cond.instanceMethod yX10_isOf, Cond.selects RX10 yX10_isOf yX10_isOf, Cond.code yX10_isOf cX10_isOf 3 (some .boolean), Cond.methodLink RX10 249 yX10_findReached, Cond.instanceMethod yX10_findReached, Cond.selects RX10 yX10_findReached yX10_findReached, Cond.code yX10_findReached cX10_findReached 9 none, Cond.methodLink RX10 252 yX10_minutesNow, Cond.instanceMethod yX10_minutesNow, Cond.selects RX10 yX10_minutesNow yX10_minutesNow]
def wsL_law_r30 : List Cond := [Cond.code yX10_minutesNow cX10_minutesNow 4 (some .int), Cond.methodLink RL 79 yX9_turns, Cond.instanceMethod yX9_turns, Cond.selects RX9 yX9_turns yX9_turns, Cond.code yX9_turns cX9_turns 6 (some .int), Cond.methodLink RX9 212 yX2_play, Cond.instanceMethod yX2_play, Cond.selects RX2 yX2_play yX2_play, Cond.code yX2_play cX2_play 5 none, Cond.methodLink RX2 21 yX4_isOut, Cond.methodLink RX2 25 yX4_minutesAt, Cond.methodLink RX2 29 yX2_canWin, Cond.instanceMethod yX2_canWin, Cond.selects RX2 yX2_canWin yX2_canWin, Cond.code yX2_canWin cX2_canWin 6 (some .boolean), Cond.methodLink RX2 37 yX4_nodeAfter, Cond.methodLink RX2 44 yX3_allPartsTold, Cond.static yX3_allPartsTold, Cond.code yX3_allPartsTold cX3_allPartsTold 1 (some .int), Cond.methodLink RX9 215 yX2_winningBegin, Cond.instanceMethod yX2_winningBegin, Cond.selects RX2 yX2_winningBegin yX2_winningBegin, Cond.code yX2_winningBegin cX2_winningBegin 3 (some .int), Cond.methodLink RL 82 yX10_turns]
def wsL_law_r31 : List Cond := [Cond.instanceMethod yX10_turns, Cond.selects RX10 yX10_turns yX10_turns, Cond.code yX10_turns cX10_turns 9 (some .int), Cond.constantLong RX10 261 (144), Cond.methodLink RX10 263 yX10_hasIt, Cond.instanceMethod yX10_hasIt, Cond.selects RX10 yX10_hasIt yX10_hasIt, Cond.code yX10_hasIt cX10_hasIt 11 (some .boolean), Cond.methodLink RX10 255 yX10_toldAll, Cond.instanceMethod yX10_toldAll, Cond.selects RX10 yX10_toldAll yX10_toldAll, Cond.code yX10_toldAll cX10_toldAll 1 (some .int), Cond.methodLink RX10 258 yX10_hasBy, Cond.instanceMethod yX10_hasBy, Cond.selects RX10 yX10_hasBy yX10_hasBy, Cond.code yX10_hasBy cX10_hasBy 4 (some .boolean), Cond.methodLink RL 83 yX9_rings, Cond.instanceMethod yX9_rings, Cond.selects RX9 yX9_rings yX9_rings, Cond.code yX9_rings cX9_rings 3 (some .int), Cond.methodLink RX9 218 yX7_isRing, Cond.instanceMethod yX7_isRing, Cond.selects RX7 yX7_isRing yX7_isRing, Cond.code yX7_isRing cX7_isRing 5 (some .boolean)]
def wsL_law_r32 : List Cond := [Cond.methodLink RX7 15 yX7_waiting, Cond.instanceMethod yX7_waiting, Cond.selects RX7 yX7_waiting yX7_waiting, Cond.code yX7_waiting cX7_waiting 7 (some .int), Cond.methodLink RX7 25 yX0_storyOf, Cond.methodLink RX7 29 yX0_otherOf, Cond.methodLink RL 86 yX10_rings, Cond.instanceMethod yX10_rings, Cond.selects RX10 yX10_rings yX10_rings, Cond.code yX10_rings cX10_rings 3 (some .int), Cond.methodLink RL 87 yX9_dropped, Cond.instanceMethod yX9_dropped, Cond.selects RX9 yX9_dropped yX9_dropped, Cond.code yX9_dropped cX9_dropped 2 (some .int), Cond.methodLink RX9 221 yX7_fewestToDrop, Cond.instanceMethod yX7_fewestToDrop, Cond.selects RX7 yX7_fewestToDrop yX7_fewestToDrop, Cond.code yX7_fewestToDrop cX7_fewestToDrop 5 (some .int), Cond.methodLink RX7 32 yJ6_bitCount_0f7a4, Cond.methodLink RX7 37 yX7_isRing, Cond.methodLink RL 90 yX10_dropped, Cond.instanceMethod yX10_dropped, Cond.selects RX10 yX10_dropped yX10_dropped, Cond.code yX10_dropped cX10_dropped 4 (some .int)]
def wsL_law_r33 : List Cond := [Cond.methodLink RL 91 yX9_heard, Cond.instanceMethod yX9_heard, Cond.selects RX9 yX9_heard yX9_heard, Cond.code yX9_heard cX9_heard 1 (some .long), Cond.constantLong RX9 224 (-5), Cond.methodLink RX9 226 yX8_evenings, Cond.instanceMethod yX8_evenings, Cond.selects RX8 yX8_evenings yX8_evenings, Cond.code yX8_evenings cX8_evenings 7 (some .long), Cond.methodLink RX8 36 yX3_allPartsTold, Cond.methodLink RX8 45 yX8_soundsAfter, Cond.instanceMethod yX8_soundsAfter, Cond.selects RX8 yX8_soundsAfter yX8_soundsAfter, Cond.code yX8_soundsAfter cX8_soundsAfter 6 (some .int), Cond.methodLink RX8 53 yX3_partsTold, Cond.methodLink RX8 57 yX0_minutesAt, Cond.methodLink RX8 62 yX6_signAt, Cond.methodLink RX8 65 yX4_nodeAfter, Cond.methodLink RL 95 yX10_heard, Cond.instanceMethod yX10_heard, Cond.selects RX10 yX10_heard yX10_heard, Cond.code yX10_heard cX10_heard 1 (some .long), Cond.constantLong RX10 270 (-5), Cond.methodLink RX10 272 yX10_findHeard]
def wsL_law_r34 : List Cond := [Cond.instanceMethod yX10_findHeard, Cond.selects RX10 yX10_findHeard yX10_findHeard, Cond.code yX10_findHeard cX10_findHeard 10 none, Cond.methodLink RX10 267 yX10_heardNext, Cond.instanceMethod yX10_heardNext, Cond.selects RX10 yX10_heardNext yX10_heardNext, Cond.code yX10_heardNext cX10_heardNext 4 (some .int), Cond.methodLink RL 96 yX9_first, Cond.instanceMethod yX9_first, Cond.selects RX9 yX9_first yX9_first, Cond.code yX9_first cX9_first 2 (some .int), Cond.methodLink RX9 227 yX8_firstLetter, Cond.instanceMethod yX8_firstLetter, Cond.selects RX8 yX8_firstLetter yX8_firstLetter, Cond.code yX8_firstLetter cX8_firstLetter 5 (some .int), Cond.methodLink RX8 72 yX8_evenings, Cond.methodLink RX8 76 yX8_firstStory, Cond.instanceMethod yX8_firstStory, Cond.selects RX8 yX8_firstStory yX8_firstStory, Cond.code yX8_firstStory cX8_firstStory 5 (some .int), Cond.methodLink RL 99 yX10_first, Cond.instanceMethod yX10_first, Cond.selects RX10 yX10_first yX10_first, Cond.code yX10_first cX10_first 6 (some .int)]
def wsL_law_r35 : List Cond := [Cond.methodLink RL 100 yX9_who, Cond.instanceMethod yX9_who, Cond.selects RX9 yX9_who yX9_who, Cond.code yX9_who cX9_who 2 (some .int), Cond.methodLink RX9 233 yX8_storiesAt, Cond.instanceMethod yX8_storiesAt, Cond.selects RX8 yX8_storiesAt yX8_storiesAt, Cond.code yX8_storiesAt cX8_storiesAt 6 (some .int), Cond.methodLink RX8 79 yX8_reachFrom, Cond.instanceMethod yX8_reachFrom, Cond.selects RX8 yX8_reachFrom yX8_reachFrom, Cond.code yX8_reachFrom cX8_reachFrom 6 (some .int), Cond.methodLink RL 103 yX10_who, Cond.instanceMethod yX10_who, Cond.selects RX10 yX10_who yX10_who, Cond.code yX10_who cX10_who 9 (some .int), Cond.methodLink RL 104 yX9_left, Cond.instanceMethod yX9_left, Cond.selects RX9 yX9_left yX9_left, Cond.code yX9_left cX9_left 5 (some .int), Cond.methodLink RX9 236 yX0_toldBy, Cond.instanceMethod yX0_toldBy, Cond.selects RX0 yX0_toldBy yX0_toldBy, Cond.code yX0_toldBy cX0_toldBy 4 (some .int)]
def wsL_law_r36 : List Cond := [Cond.methodLink RX9 239 yX9_closers, Cond.instanceMethod yX9_closers, Cond.selects RX9 yX9_closers yX9_closers, Cond.code yX9_closers cX9_closers 7 (some .int), Cond.methodLink RL 107 yX10_left, Cond.instanceMethod yX10_left, Cond.selects RX10 yX10_left yX10_left, Cond.code yX10_left cX10_left 8 (some .int), Cond.methodLink RL 108 yX9_image, Cond.instanceMethod yX9_image, Cond.selects RX9 yX9_image yX9_image, Cond.code yX9_image cX9_image 2 (some .int), Cond.methodLink RX9 242 yX0_copy, Cond.instanceMethod yX0_copy, Cond.selects RX0 yX0_copy yX0_copy, Cond.code yX0_copy cX0_copy 3 none, Cond.fieldLink RX0 40 "StoryNest$Book" "breath" "I", Cond.methodLink RL 111 yX10_image, Cond.instanceMethod yX10_image, Cond.selects RX10 yX10_image yX10_image, Cond.code yX10_image cX10_image 2 (some .int), Cond.fieldLink RX10 279 "StoryNestModel" "keptAt" "I", Cond.fieldLink RX10 275 "StoryNestModel" "isWriting" "Z", Cond.methodLink RX10 285 yX10_passAll]
def wsL_law_r37 : List Cond := [Cond.instanceMethod yX10_passAll, Cond.selects RX10 yX10_passAll yX10_passAll, Cond.code yX10_passAll cX10_passAll 2 none, Cond.methodLink RX10 282 yX10_pass, Cond.instanceMethod yX10_pass, Cond.selects RX10 yX10_pass yX10_pass, Cond.code yX10_pass cX10_pass 3 (some .int), Cond.methodLink RL 112 yX9_restore, Cond.instanceMethod yX9_restore, Cond.selects RX9 yX9_restore yX9_restore, Cond.code yX9_restore cX9_restore 2 (some .int), Cond.methodLink RL 115 yX10_restore, Cond.instanceMethod yX10_restore, Cond.selects RX10 yX10_restore yX10_restore, Cond.code yX10_restore cX10_restore 2 (some .int), Cond.methodLink RL 116 yX9_told, Cond.instanceMethod yX9_told, Cond.selects RX9 yX9_told yX9_told, Cond.code yX9_told cX9_told 3 (some .int), Cond.methodLink RL 119 yX10_told, Cond.instanceMethod yX10_told, Cond.selects RX10 yX10_told yX10_told, Cond.code yX10_told cX10_told 3 (some .int), Cond.constantLong RX10 288 (20)]
def wsL_law_r38 : List Cond := [Cond.constantLong RX10 290 (23), Cond.constantLong RX10 292 (30), Cond.constantLong RX10 294 (35)]
def wsL_law : List Cond := (wsL_law_r1 ++ (wsL_law_r2 ++ (wsL_law_r3 ++ (wsL_law_r4 ++ (wsL_law_r5 ++ (wsL_law_r6 ++ (wsL_law_r7 ++ (wsL_law_r8 ++ (wsL_law_r9 ++ (wsL_law_r10 ++ (wsL_law_r11 ++ (wsL_law_r12 ++ (wsL_law_r13 ++ (wsL_law_r14 ++ (wsL_law_r15 ++ (wsL_law_r16 ++ (wsL_law_r17 ++ (wsL_law_r18 ++ (wsL_law_r19 ++ (wsL_law_r20 ++ (wsL_law_r21 ++ (wsL_law_r22 ++ (wsL_law_r23 ++ (wsL_law_r24 ++ (wsL_law_r25 ++ (wsL_law_r26 ++ (wsL_law_r27 ++ (wsL_law_r28 ++ (wsL_law_r29 ++ (wsL_law_r30 ++ (wsL_law_r31 ++ (wsL_law_r32 ++ (wsL_law_r33 ++ (wsL_law_r34 ++ (wsL_law_r35 ++ (wsL_law_r36 ++ (wsL_law_r37 ++ wsL_law_r38))))))))))))))))))))))))))))))))))))) ++ wsX90 ++ wsX100 ++ wsX60 ++ wsX00 ++ wsX10 ++ wsX40 ++ wsX50 ++ wsX20 ++ wsX80 ++ wsX70 ++ wsX30 ++ ([] : List Cond)
set_option maxRecDepth 100000 in
theorem inlX0 : ∀ w ∈ wsX00, w ∈ wsL_law := fun _ h => List.mem_append_left _ (List.mem_append_left _ (List.mem_append_left _ (List.mem_append_left _ (List.mem_append_left _ (List.mem_append_left _ (List.mem_append_left _ (List.mem_append_left _ (List.mem_append_right _ h))))))))
set_option maxRecDepth 100000 in
theorem inlX1 : ∀ w ∈ wsX10, w ∈ wsL_law := fun _ h => List.mem_append_left _ (List.mem_append_left _ (List.mem_append_left _ (List.mem_append_left _ (List.mem_append_left _ (List.mem_append_left _ (List.mem_append_left _ (List.mem_append_right _ h)))))))
set_option maxRecDepth 100000 in
theorem inlX2 : ∀ w ∈ wsX20, w ∈ wsL_law := fun _ h => List.mem_append_left _ (List.mem_append_left _ (List.mem_append_left _ (List.mem_append_left _ (List.mem_append_right _ h))))
set_option maxRecDepth 100000 in
theorem inlX3 : ∀ w ∈ wsX30, w ∈ wsL_law := fun _ h => List.mem_append_left _ (List.mem_append_right _ h)
set_option maxRecDepth 100000 in
theorem inlX4 : ∀ w ∈ wsX40, w ∈ wsL_law := fun _ h => List.mem_append_left _ (List.mem_append_left _ (List.mem_append_left _ (List.mem_append_left _ (List.mem_append_left _ (List.mem_append_left _ (List.mem_append_right _ h))))))
set_option maxRecDepth 100000 in
theorem inlX5 : ∀ w ∈ wsX50, w ∈ wsL_law := fun _ h => List.mem_append_left _ (List.mem_append_left _ (List.mem_append_left _ (List.mem_append_left _ (List.mem_append_left _ (List.mem_append_right _ h)))))
set_option maxRecDepth 100000 in
theorem inlX6 : ∀ w ∈ wsX60, w ∈ wsL_law := fun _ h => List.mem_append_left _ (List.mem_append_left _ (List.mem_append_left _ (List.mem_append_left _ (List.mem_append_left _ (List.mem_append_left _ (List.mem_append_left _ (List.mem_append_left _ (List.mem_append_left _ (List.mem_append_right _ h)))))))))
set_option maxRecDepth 100000 in
theorem inlX7 : ∀ w ∈ wsX70, w ∈ wsL_law := fun _ h => List.mem_append_left _ (List.mem_append_left _ (List.mem_append_right _ h))
set_option maxRecDepth 100000 in
theorem inlX8 : ∀ w ∈ wsX80, w ∈ wsL_law := fun _ h => List.mem_append_left _ (List.mem_append_left _ (List.mem_append_left _ (List.mem_append_right _ h)))
set_option maxRecDepth 100000 in
theorem inlX9 : ∀ w ∈ wsX90, w ∈ wsL_law := fun _ h => List.mem_append_left _ (List.mem_append_left _ (List.mem_append_left _ (List.mem_append_left _ (List.mem_append_left _ (List.mem_append_left _ (List.mem_append_left _ (List.mem_append_left _ (List.mem_append_left _ (List.mem_append_left _ (List.mem_append_left _ (List.mem_append_right _ h)))))))))))
set_option maxRecDepth 100000 in
theorem inlX10 : ∀ w ∈ wsX100, w ∈ wsL_law := fun _ h => List.mem_append_left _ (List.mem_append_left _ (List.mem_append_left _ (List.mem_append_left _ (List.mem_append_left _ (List.mem_append_left _ (List.mem_append_left _ (List.mem_append_left _ (List.mem_append_left _ (List.mem_append_left _ (List.mem_append_right _ h))))))))))
abbrev vwCl : List vw_C := [(RX0, TX0, 10), (RX1, TX1, 8), (RX2, TX2, 1), (RX3, TX3, 7), (RX4, TX4, 10), (RX5, TX5, 4), (RX6, TX6, 2), (RX7, TX7, 1), (RX8, TX8, 4), (RX9, TX9, 10), (RX10, TX10, 30)]
