def RX0 : String := "Milletcourt$Chronicle"
def TX0 : u_T := fun k => match k with
  | 0 => ("Milletcourt$Chronicle", "days", "[I", false)
  | 1 => ("Milletcourt$Chronicle", "numbers", "[I", false)
  | _ => ("Milletcourt$Chronicle", "count", "I", false)
def tyX0 : Nat → FieldType := fun k => match k with
  | 0 => .array .int
  | 1 => .array .int
  | _ => .int
abbrev wsX00 : List Cond := u_ws RX0 TX0 3
theorem nmX0 : ∀ a, a < 3 → ∀ b, b < 3 → a ≠ b → (TX0 a).2.1 ≠ (TX0 b).2.1 := by decide +kernel
theorem tyX0_ok : ∀ k, k < 3 → parseFieldDescriptor (TX0 k).2.2.1 = some (tyX0 k) := by decide +kernel
abbrev cX0_init : ByteArray := prog_2_method_1_code
def yX0_init : MethodName := ⟨RX0, "<init>", "(II)V"⟩
abbrev cX0_numberOn : ByteArray := prog_2_method_2_code
def yX0_numberOn : MethodName := ⟨RX0, "numberOn", "(I)I"⟩
abbrev cX0_newest : ByteArray := prog_2_method_3_code
def yX0_newest : MethodName := ⟨RX0, "newest", "()I"⟩
abbrev cX0_newestDay : ByteArray := prog_2_method_4_code
def yX0_newestDay : MethodName := ⟨RX0, "newestDay", "()I"⟩
abbrev cX0_goesBackBy : ByteArray := prog_2_method_5_code
def yX0_goesBackBy : MethodName := ⟨RX0, "goesBackBy", "(I)Z"⟩
abbrev cX0_dropNewest : ByteArray := prog_2_method_6_code
def yX0_dropNewest : MethodName := ⟨RX0, "dropNewest", "()V"⟩
abbrev cX0_tell : ByteArray := prog_2_method_7_code
def yX0_tell : MethodName := ⟨RX0, "tell", "(II)V"⟩
abbrev cX0_makeRoom : ByteArray := prog_2_method_8_code
def yX0_makeRoom : MethodName := ⟨RX0, "makeRoom", "()V"⟩
def RX1 : String := "Milletcourt$Community"
def TX1 : u_T := fun k => match k with
  | 0 => ("Milletcourt$Community", "law", "LMilletcourt$Law;", true)
  | _ => ("Milletcourt$Community", "recognition", "LMilletcourt$Chronicle;", true)
def tyX1 : Nat → FieldType := fun k => match k with
  | 0 => .object "Milletcourt$Law"
  | _ => .object "Milletcourt$Chronicle"
abbrev wsX10 : List Cond := u_ws RX1 TX1 2
theorem nmX1 : ∀ a, a < 2 → ∀ b, b < 2 → a ≠ b → (TX1 a).2.1 ≠ (TX1 b).2.1 := by decide +kernel
theorem tyX1_ok : ∀ k, k < 2 → parseFieldDescriptor (TX1 k).2.2.1 = some (tyX1 k) := by decide +kernel
abbrev cX1_init : ByteArray := prog_3_method_1_code
def yX1_init : MethodName := ⟨RX1, "<init>", "(I)V"⟩
def RX2 : String := "Milletcourt$Law"
def TX2 : u_T := fun k => match k with
  | _ => ("Milletcourt$Law", "numbers", "[LMilletcourt$Chronicle;", true)
def tyX2 : Nat → FieldType := fun k => match k with
  | _ => .array (.object "Milletcourt$Chronicle")
abbrev wsX20 : List Cond := u_ws RX2 TX2 1
theorem nmX2 : ∀ a, a < 1 → ∀ b, b < 1 → a ≠ b → (TX2 a).2.1 ≠ (TX2 b).2.1 := by decide +kernel
theorem tyX2_ok : ∀ k, k < 1 → parseFieldDescriptor (TX2 k).2.2.1 = some (tyX2 k) := by decide +kernel
abbrev cX2_init : ByteArray := prog_4_method_1_code
def yX2_init : MethodName := ⟨RX2, "<init>", "()V"⟩
abbrev cX2_numberOn : ByteArray := prog_4_method_2_code
def yX2_numberOn : MethodName := ⟨RX2, "numberOn", "(II)I"⟩
def RX3 : String := "Milletcourt$Marriage"
def TX3 : u_T := fun k => match k with
  | 0 => ("Milletcourt$Marriage", "husband", "LMilletcourt$Person;", true)
  | 1 => ("Milletcourt$Marriage", "wife", "LMilletcourt$Person;", true)
  | 2 => ("Milletcourt$Marriage", "court", "I", true)
  | 3 => ("Milletcourt$Marriage", "status", "I", false)
  | 4 => ("Milletcourt$Marriage", "owed", "I", false)
  | 5 => ("Milletcourt$Marriage", "hasHusbandAsked", "Z", false)
  | _ => ("Milletcourt$Marriage", "hasWifeAsked", "Z", false)
def tyX3 : Nat → FieldType := fun k => match k with
  | 0 => .object "Milletcourt$Person"
  | 1 => .object "Milletcourt$Person"
  | 2 => .int
  | 3 => .int
  | 4 => .int
  | 5 => .boolean
  | _ => .boolean
abbrev wsX30 : List Cond := u_ws RX3 TX3 7
theorem nmX3 : ∀ a, a < 7 → ∀ b, b < 7 → a ≠ b → (TX3 a).2.1 ≠ (TX3 b).2.1 := by decide +kernel
theorem tyX3_ok : ∀ k, k < 7 → parseFieldDescriptor (TX3 k).2.2.1 = some (tyX3 k) := by decide +kernel
abbrev cX3_init : ByteArray := prog_5_method_1_code
def yX3_init : MethodName := ⟨RX3, "<init>", "(LMilletcourt$Person;LMilletcourt$Person;II)V"⟩
abbrev cX3_lastsFor : ByteArray := prog_5_method_2_code
def yX3_lastsFor : MethodName := ⟨RX3, "lastsFor", "(LMilletcourt$Person;)Z"⟩
abbrev cX3_payDower : ByteArray := prog_5_method_3_code
def yX3_payDower : MethodName := ⟨RX3, "payDower", "()V"⟩
def RX4 : String := "Milletcourt$Person"
def TX4 : u_T := fun k => match k with
  | 0 => ("Milletcourt$Person", "number", "I", true)
  | 1 => ("Milletcourt$Person", "isMan", "Z", true)
  | 2 => ("Milletcourt$Person", "mother", "LMilletcourt$Person;", true)
  | 3 => ("Milletcourt$Person", "father", "LMilletcourt$Person;", true)
  | 4 => ("Milletcourt$Person", "birthday", "I", true)
  | 5 => ("Milletcourt$Person", "faiths", "LMilletcourt$Chronicle;", true)
  | 6 => ("Milletcourt$Person", "lives", "Z", false)
  | 7 => ("Milletcourt$Person", "goods", "J", false)
  | 8 => ("Milletcourt$Person", "turnsTo", "I", false)
  | 9 => ("Milletcourt$Person", "turnsOn", "I", false)
  | _ => ("Milletcourt$Person", "leads", "Z", false)
def tyX4 : Nat → FieldType := fun k => match k with
  | 0 => .int
  | 1 => .boolean
  | 2 => .object "Milletcourt$Person"
  | 3 => .object "Milletcourt$Person"
  | 4 => .int
  | 5 => .object "Milletcourt$Chronicle"
  | 6 => .boolean
  | 7 => .long
  | 8 => .int
  | 9 => .int
  | _ => .boolean
abbrev wsX40 : List Cond := u_ws RX4 TX4 11
theorem nmX4 : ∀ a, a < 11 → ∀ b, b < 11 → a ≠ b → (TX4 a).2.1 ≠ (TX4 b).2.1 := by decide +kernel
theorem tyX4_ok : ∀ k, k < 11 → parseFieldDescriptor (TX4 k).2.2.1 = some (tyX4 k) := by decide +kernel
abbrev cX4_init : ByteArray := prog_6_method_1_code
def yX4_init : MethodName := ⟨RX4, "<init>", "(IZLMilletcourt$Person;LMilletcourt$Person;II)V"⟩
abbrev cX4_faithNow : ByteArray := prog_6_method_2_code
def yX4_faithNow : MethodName := ⟨RX4, "faithNow", "()I"⟩
abbrev cX4_isMinorOn : ByteArray := prog_6_method_3_code
def yX4_isMinorOn : MethodName := ⟨RX4, "isMinorOn", "(I)Z"⟩
abbrev cX4_isGrownOn : ByteArray := prog_6_method_4_code
def yX4_isGrownOn : MethodName := ⟨RX4, "isGrownOn", "(I)Z"⟩
abbrev cX4_isTurning : ByteArray := prog_6_method_5_code
def yX4_isTurning : MethodName := ⟨RX4, "isTurning", "()Z"⟩
abbrev cX4_endTurning : ByteArray := prog_6_method_6_code
def yX4_endTurning : MethodName := ⟨RX4, "endTurning", "()V"⟩
abbrev cX4_leader : ByteArray := prog_6_method_7_code
def yX4_leader : MethodName := ⟨RX4, "leader", "()LMilletcourt$Person;"⟩
abbrev cX4_isLivingChildOf : ByteArray := prog_6_method_8_code
def yX4_isLivingChildOf : MethodName := ⟨RX4, "isLivingChildOf", "(LMilletcourt$Person;)Z"⟩
abbrev cX4_shares : ByteArray := prog_6_method_9_code
def yX4_shares : MethodName := ⟨RX4, "shares", "(Z)I"⟩
abbrev cX4_payUpTo : ByteArray := prog_6_method_10_code
def yX4_payUpTo : MethodName := ⟨RX4, "payUpTo", "(ILMilletcourt$Person;)I"⟩
def RX5 : String := "Milletcourt$Suit"
def TX5 : u_T := fun k => match k with
  | 0 => ("Milletcourt$Suit", "plaintiff", "LMilletcourt$Person;", true)
  | 1 => ("Milletcourt$Suit", "defendant", "LMilletcourt$Person;", true)
  | 2 => ("Milletcourt$Suit", "court", "I", true)
  | 3 => ("Milletcourt$Suit", "cents", "I", true)
  | 4 => ("Milletcourt$Suit", "witnesses", "Ljava/util/ArrayList;", true)
  | 5 => ("Milletcourt$Suit", "status", "I", false)
  | 6 => ("Milletcourt$Suit", "canJudge", "Z", false)
  | 7 => ("Milletcourt$Suit", "owed", "I", false)
  | 8 => ("Milletcourt$Suit", "judgedOn", "I", false)
  | _ => ("Milletcourt$Suit", "wasAppealed", "Z", false)
def tyX5 : Nat → FieldType := fun k => match k with
  | 0 => .object "Milletcourt$Person"
  | 1 => .object "Milletcourt$Person"
  | 2 => .int
  | 3 => .int
  | 4 => .object "java/util/ArrayList"
  | 5 => .int
  | 6 => .boolean
  | 7 => .int
  | 8 => .int
  | _ => .boolean
abbrev wsX50 : List Cond := u_ws RX5 TX5 10
theorem nmX5 : ∀ a, a < 10 → ∀ b, b < 10 → a ≠ b → (TX5 a).2.1 ≠ (TX5 b).2.1 := by decide +kernel
theorem tyX5_ok : ∀ k, k < 10 → parseFieldDescriptor (TX5 k).2.2.1 = some (tyX5 k) := by decide +kernel
abbrev cX5_init : ByteArray := prog_7_method_1_code
def yX5_init : MethodName := ⟨RX5, "<init>", "(LMilletcourt$Person;LMilletcourt$Person;II)V"⟩
abbrev cX5_isBetween : ByteArray := prog_7_method_2_code
def yX5_isBetween : MethodName := ⟨RX5, "isBetween", "(LMilletcourt$Person;)Z"⟩
abbrev cX5_doBothLive : ByteArray := prog_7_method_3_code
def yX5_doBothLive : MethodName := ⟨RX5, "doBothLive", "()Z"⟩
abbrev cX5_hasHeard : ByteArray := prog_7_method_4_code
def yX5_hasHeard : MethodName := ⟨RX5, "hasHeard", "(LMilletcourt$Person;)Z"⟩
abbrev cX5_settle : ByteArray := prog_7_method_5_code
def yX5_settle : MethodName := ⟨RX5, "settle", "(ZI)V"⟩
abbrev cX5_giveBack : ByteArray := prog_7_method_6_code
def yX5_giveBack : MethodName := ⟨RX5, "giveBack", "()V"⟩
def RX6 : String := "Milletcourt$Witness"
def TX6 : u_T := fun k => match k with
  | 0 => ("Milletcourt$Witness", "person", "LMilletcourt$Person;", true)
  | _ => ("Milletcourt$Witness", "isFor", "Z", true)
def tyX6 : Nat → FieldType := fun k => match k with
  | 0 => .object "Milletcourt$Person"
  | _ => .boolean
abbrev wsX60 : List Cond := u_ws RX6 TX6 2
theorem nmX6 : ∀ a, a < 2 → ∀ b, b < 2 → a ≠ b → (TX6 a).2.1 ≠ (TX6 b).2.1 := by decide +kernel
theorem tyX6_ok : ∀ k, k < 2 → parseFieldDescriptor (TX6 k).2.2.1 = some (tyX6 k) := by decide +kernel
abbrev cX6_init : ByteArray := prog_8_method_1_code
def yX6_init : MethodName := ⟨RX6, "<init>", "(LMilletcourt$Person;Z)V"⟩
def RX7 : String := "Milletcourt"
def TX7 : u_T := fun k => match k with
  | 0 => ("Milletcourt", "crown", "LMilletcourt$Law;", true)
  | 1 => ("Milletcourt", "communities", "Ljava/util/ArrayList;", true)
  | 2 => ("Milletcourt", "rules", "[LMilletcourt$Chronicle;", true)
  | 3 => ("Milletcourt", "persons", "Ljava/util/ArrayList;", true)
  | 4 => ("Milletcourt", "marriages", "Ljava/util/ArrayList;", true)
  | 5 => ("Milletcourt", "suits", "Ljava/util/ArrayList;", true)
  | 6 => ("Milletcourt", "decreesTold", "I", false)
  | 7 => ("Milletcourt", "rulesTold", "I", false)
  | 8 => ("Milletcourt", "today", "I", false)
  | _ => ("Milletcourt", "crownGoods", "J", false)
def tyX7 : Nat → FieldType := fun k => match k with
  | 0 => .object "Milletcourt$Law"
  | 1 => .object "java/util/ArrayList"
  | 2 => .array (.object "Milletcourt$Chronicle")
  | 3 => .object "java/util/ArrayList"
  | 4 => .object "java/util/ArrayList"
  | 5 => .object "java/util/ArrayList"
  | 6 => .int
  | 7 => .int
  | 8 => .int
  | _ => .long
abbrev wsX70 : List Cond := u_ws RX7 TX7 10
theorem nmX7 : ∀ a, a < 10 → ∀ b, b < 10 → a ≠ b → (TX7 a).2.1 ≠ (TX7 b).2.1 := by decide +kernel
theorem tyX7_ok : ∀ k, k < 10 → parseFieldDescriptor (TX7 k).2.2.1 = some (tyX7 k) := by decide +kernel
abbrev cX7_init : ByteArray := prog_1_method_1_code
def yX7_init : MethodName := ⟨RX7, "<init>", "()V"⟩
abbrev cX7_community : ByteArray := prog_1_method_2_code
def yX7_community : MethodName := ⟨RX7, "community", "()I"⟩
abbrev cX7_recognise : ByteArray := prog_1_method_3_code
def yX7_recognise : MethodName := ⟨RX7, "recognise", "(IZ)Z"⟩
abbrev cX7_decree : ByteArray := prog_1_method_4_code
def yX7_decree : MethodName := ⟨RX7, "decree", "(III)I"⟩
abbrev cX7_rule : ByteArray := prog_1_method_5_code
def yX7_rule : MethodName := ⟨RX7, "rule", "(II)I"⟩
abbrev cX7_law : ByteArray := prog_1_method_6_code
def yX7_law : MethodName := ⟨RX7, "law", "(III)I"⟩
abbrev cX7_court : ByteArray := prog_1_method_7_code
def yX7_court : MethodName := ⟨RX7, "court", "(IIII)I"⟩
abbrev cX7_person : ByteArray := prog_1_method_8_code
def yX7_person : MethodName := ⟨RX7, "person", "(ZIII)I"⟩
abbrev cX7_turn : ByteArray := prog_1_method_9_code
def yX7_turn : MethodName := ⟨RX7, "turn", "(IIII)I"⟩
abbrev cX7_recant : ByteArray := prog_1_method_10_code
def yX7_recant : MethodName := ⟨RX7, "recant", "(I)I"⟩
abbrev cX7_faith : ByteArray := prog_1_method_11_code
def yX7_faith : MethodName := ⟨RX7, "faith", "(II)I"⟩
abbrev cX7_marry : ByteArray := prog_1_method_12_code
def yX7_marry : MethodName := ⟨RX7, "marry", "(III)I"⟩
abbrev cX7_divorce : ByteArray := prog_1_method_13_code
def yX7_divorce : MethodName := ⟨RX7, "divorce", "(IZ)Z"⟩
abbrev cX7_goods : ByteArray := prog_1_method_14_code
def yX7_goods : MethodName := ⟨RX7, "goods", "(II)J"⟩
abbrev cX7_dies : ByteArray := prog_1_method_15_code
def yX7_dies : MethodName := ⟨RX7, "dies", "(I)J"⟩
abbrev cX7_sue : ByteArray := prog_1_method_16_code
def yX7_sue : MethodName := ⟨RX7, "sue", "(IIII)I"⟩
abbrev cX7_appear : ByteArray := prog_1_method_17_code
def yX7_appear : MethodName := ⟨RX7, "appear", "(I)Z"⟩
abbrev cX7_testify : ByteArray := prog_1_method_18_code
def yX7_testify : MethodName := ⟨RX7, "testify", "(IIZ)I"⟩
abbrev cX7_judge : ByteArray := prog_1_method_19_code
def yX7_judge : MethodName := ⟨RX7, "judge", "(I)Z"⟩
abbrev cX7_appeal : ByteArray := prog_1_method_20_code
def yX7_appeal : MethodName := ⟨RX7, "appeal", "(I)Z"⟩
abbrev cX7_execute : ByteArray := prog_1_method_21_code
def yX7_execute : MethodName := ⟨RX7, "execute", "(I)J"⟩
abbrev cX7_wins : ByteArray := prog_1_method_22_code
def yX7_wins : MethodName := ⟨RX7, "wins", "(II)Z"⟩
abbrev cX7_ofPerson : ByteArray := prog_1_method_23_code
def yX7_ofPerson : MethodName := ⟨RX7, "ofPerson", "(II)J"⟩
abbrev cX7_ofMarriage : ByteArray := prog_1_method_24_code
def yX7_ofMarriage : MethodName := ⟨RX7, "ofMarriage", "(II)I"⟩
abbrev cX7_ofSuit : ByteArray := prog_1_method_25_code
def yX7_ofSuit : MethodName := ⟨RX7, "ofSuit", "(II)I"⟩
abbrev cX7_treasury : ByteArray := prog_1_method_26_code
def yX7_treasury : MethodName := ⟨RX7, "treasury", "()J"⟩
abbrev cX7_all : ByteArray := prog_1_method_27_code
def yX7_all : MethodName := ⟨RX7, "all", "()J"⟩
abbrev cX7_pass : ByteArray := prog_1_method_28_code
def yX7_pass : MethodName := ⟨RX7, "pass", "(I)I"⟩
abbrev cX7_needWithin : ByteArray := prog_1_method_29_code
def yX7_needWithin : MethodName := ⟨RX7, "needWithin", "(III)V"⟩
abbrev cX7_communityAt : ByteArray := prog_1_method_30_code
def yX7_communityAt : MethodName := ⟨RX7, "communityAt", "(I)LMilletcourt$Community;"⟩
abbrev cX7_lawAt : ByteArray := prog_1_method_31_code
def yX7_lawAt : MethodName := ⟨RX7, "lawAt", "(I)LMilletcourt$Law;"⟩
abbrev cX7_personAt : ByteArray := prog_1_method_32_code
def yX7_personAt : MethodName := ⟨RX7, "personAt", "(I)LMilletcourt$Person;"⟩
abbrev cX7_personOrNullAt : ByteArray := prog_1_method_33_code
def yX7_personOrNullAt : MethodName := ⟨RX7, "personOrNullAt", "(I)LMilletcourt$Person;"⟩
abbrev cX7_marriageAt : ByteArray := prog_1_method_34_code
def yX7_marriageAt : MethodName := ⟨RX7, "marriageAt", "(I)LMilletcourt$Marriage;"⟩
abbrev cX7_suitAt : ByteArray := prog_1_method_35_code
def yX7_suitAt : MethodName := ⟨RX7, "suitAt", "(I)LMilletcourt$Suit;"⟩
abbrev cX7_needSeised : ByteArray := prog_1_method_36_code
def yX7_needSeised : MethodName := ⟨RX7, "needSeised", "(LMilletcourt$Suit;)V"⟩
abbrev cX7_chroniclesFrom : ByteArray := prog_1_method_37_code
def yX7_chroniclesFrom : MethodName := ⟨RX7, "chroniclesFrom", "([I)[LMilletcourt$Chronicle;"⟩
abbrev cX7_courtOf : ByteArray := prog_1_method_38_code
def yX7_courtOf : MethodName := ⟨RX7, "courtOf", "(ILMilletcourt$Person;LMilletcourt$Person;I)I"⟩
abbrev cX7_faithThatRules : ByteArray := prog_1_method_39_code
def yX7_faithThatRules : MethodName := ⟨RX7, "faithThatRules", "(III)I"⟩
abbrev cX7_faithAtBirth : ByteArray := prog_1_method_40_code
def yX7_faithAtBirth : MethodName := ⟨RX7, "faithAtBirth", "(LMilletcourt$Person;LMilletcourt$Person;I)I"⟩
abbrev cX7_canWitnessTurn : ByteArray := prog_1_method_41_code
def yX7_canWitnessTurn : MethodName := ⟨RX7, "canWitnessTurn", "(LMilletcourt$Person;I)Z"⟩
abbrev cX7_takeFaithsDue : ByteArray := prog_1_method_42_code
def yX7_takeFaithsDue : MethodName := ⟨RX7, "takeFaithsDue", "()V"⟩
abbrev cX7_takeByTurning : ByteArray := prog_1_method_43_code
def yX7_takeByTurning : MethodName := ⟨RX7, "takeByTurning", "(LMilletcourt$Person;I)V"⟩
abbrev cX7_leadChildren : ByteArray := prog_1_method_44_code
def yX7_leadChildren : MethodName := ⟨RX7, "leadChildren", "(LMilletcourt$Person;I)V"⟩
abbrev cX7_mayMarry : ByteArray := prog_1_method_45_code
def yX7_mayMarry : MethodName := ⟨RX7, "mayMarry", "(LMilletcourt$Person;LMilletcourt$Person;LMilletcourt$Law;)Z"⟩
abbrev cX7_howManyLast : ByteArray := prog_1_method_46_code
def yX7_howManyLast : MethodName := ⟨RX7, "howManyLast", "(LMilletcourt$Person;)I"⟩
abbrev cX7_lowestThatLasts : ByteArray := prog_1_method_47_code
def yX7_lowestThatLasts : MethodName := ⟨RX7, "lowestThatLasts", "(LMilletcourt$Person;)I"⟩
abbrev cX7_endsByAsking : ByteArray := prog_1_method_48_code
def yX7_endsByAsking : MethodName := ⟨RX7, "endsByAsking", "(LMilletcourt$Marriage;ZI)Z"⟩
abbrev cX7_endMarriagesOf : ByteArray := prog_1_method_49_code
def yX7_endMarriagesOf : MethodName := ⟨RX7, "endMarriagesOf", "(LMilletcourt$Person;)Ljava/util/ArrayList;"⟩
abbrev cX7_livingChildrenOf : ByteArray := prog_1_method_50_code
def yX7_livingChildrenOf : MethodName := ⟨RX7, "livingChildrenOf", "(LMilletcourt$Person;)Ljava/util/ArrayList;"⟩
abbrev cX7_howManyChildrenLive : ByteArray := prog_1_method_51_code
def yX7_howManyChildrenLive : MethodName := ⟨RX7, "howManyChildrenLive", "(LMilletcourt$Person;)I"⟩
abbrev cX7_removeOtherFaiths : ByteArray := prog_1_method_52_code
def yX7_removeOtherFaiths : MethodName := ⟨RX7, "removeOtherFaiths", "(Ljava/util/ArrayList;I)V"⟩
abbrev cX7_leaveEstate : ByteArray := prog_1_method_53_code
def yX7_leaveEstate : MethodName := ⟨RX7, "leaveEstate", "(LMilletcourt$Person;Ljava/util/ArrayList;Ljava/util/ArrayList;LMilletcourt$Law;)J"⟩
abbrev cX7_divide : ByteArray := prog_1_method_54_code
def yX7_divide : MethodName := ⟨RX7, "divide", "(JLjava/util/ArrayList;Z)V"⟩
abbrev cX7_lowestOf : ByteArray := prog_1_method_55_code
def yX7_lowestOf : MethodName := ⟨RX7, "lowestOf", "(Ljava/util/ArrayList;)LMilletcourt$Person;"⟩
abbrev cX7_isSeisedBetween : ByteArray := prog_1_method_56_code
def yX7_isSeisedBetween : MethodName := ⟨RX7, "isSeisedBetween", "(LMilletcourt$Person;LMilletcourt$Person;)Z"⟩
abbrev cX7_isWonBefore : ByteArray := prog_1_method_57_code
def yX7_isWonBefore : MethodName := ⟨RX7, "isWonBefore", "(LMilletcourt$Suit;LMilletcourt$Law;)Z"⟩
def RX8 : String := "MilletcourtModel"
def TX8 : u_T := fun k => match k with
  | _ => ("", "", "", false)
def tyX8 : Nat → FieldType := fun k => match k with
  | _ => .int
abbrev wsX80 : List Cond := u_ws RX8 TX8 0
theorem nmX8 : ∀ a, a < 0 → ∀ b, b < 0 → a ≠ b → (TX8 a).2.1 ≠ (TX8 b).2.1 := by decide +kernel
theorem tyX8_ok : ∀ k, k < 0 → parseFieldDescriptor (TX8 k).2.2.1 = some (tyX8 k) := by decide +kernel
def RJx145de : String := "java/io/Serializable"
def TJx145de : u_T := fun k => match k with
  | _ => ("", "", "", false)
def tyJx145de : Nat → FieldType := fun k => match k with
  | _ => .int
abbrev wsJx145de0 : List Cond := u_ws RJx145de TJx145de 0
theorem nmJx145de : ∀ a, a < 0 → ∀ b, b < 0 → a ≠ b → (TJx145de a).2.1 ≠ (TJx145de b).2.1 := by decide +kernel
theorem tyJx145de_ok : ∀ k, k < 0 → parseFieldDescriptor (TJx145de k).2.2.1 = some (tyJx145de k) := by decide +kernel
def RJx8e188 : String := "java/lang/Cloneable"
def TJx8e188 : u_T := fun k => match k with
  | _ => ("", "", "", false)
def tyJx8e188 : Nat → FieldType := fun k => match k with
  | _ => .int
abbrev wsJx8e1880 : List Cond := u_ws RJx8e188 TJx8e188 0
theorem nmJx8e188 : ∀ a, a < 0 → ∀ b, b < 0 → a ≠ b → (TJx8e188 a).2.1 ≠ (TJx8e188 b).2.1 := by decide +kernel
theorem tyJx8e188_ok : ∀ k, k < 0 → parseFieldDescriptor (TJx8e188 k).2.2.1 = some (tyJx8e188 k) := by decide +kernel
def RJxab1ab : String := "java/lang/Iterable"
def TJxab1ab : u_T := fun k => match k with
  | _ => ("", "", "", false)
def tyJxab1ab : Nat → FieldType := fun k => match k with
  | _ => .int
abbrev wsJxab1ab0 : List Cond := u_ws RJxab1ab TJxab1ab 0
theorem nmJxab1ab : ∀ a, a < 0 → ∀ b, b < 0 → a ≠ b → (TJxab1ab a).2.1 ≠ (TJxab1ab b).2.1 := by decide +kernel
theorem tyJxab1ab_ok : ∀ k, k < 0 → parseFieldDescriptor (TJxab1ab k).2.2.1 = some (tyJxab1ab k) := by decide +kernel
def RJ9 : String := "java/lang/Math"
def TJ9 : u_T := fun k => match k with
  | _ => ("", "", "", false)
def tyJ9 : Nat → FieldType := fun k => match k with
  | _ => .int
abbrev wsJ90 : List Cond := u_ws RJ9 TJ9 0
theorem nmJ9 : ∀ a, a < 0 → ∀ b, b < 0 → a ≠ b → (TJ9 a).2.1 ≠ (TJ9 b).2.1 := by decide +kernel
theorem tyJ9_ok : ∀ k, k < 0 → parseFieldDescriptor (TJ9 k).2.2.1 = some (tyJ9 k) := by decide +kernel
abbrev cJ9_max_7cf53 : ByteArray := prog_18_method_65_code
def yJ9_max_7cf53 : MethodName := ⟨RJ9, "max", "(II)I"⟩
abbrev cJ9_min_7cf53 : ByteArray := prog_18_method_69_code
def yJ9_min_7cf53 : MethodName := ⟨RJ9, "min", "(II)I"⟩
abbrev cJ9_min_f86c9 : ByteArray := prog_18_method_70_code
def yJ9_min_f86c9 : MethodName := ⟨RJ9, "min", "(JJ)J"⟩
def RJ0 : String := "java/lang/String"
def TJ0 : u_T := fun k => match k with
  | _ => ("", "", "", false)
def tyJ0 : Nat → FieldType := fun k => match k with
  | _ => .int
abbrev wsJ00 : List Cond := u_ws RJ0 TJ0 0
theorem nmJ0 : ∀ a, a < 0 → ∀ b, b < 0 → a ≠ b → (TJ0 a).2.1 ≠ (TJ0 b).2.1 := by decide +kernel
theorem tyJ0_ok : ∀ k, k < 0 → parseFieldDescriptor (TJ0 k).2.2.1 = some (tyJ0 k) := by decide +kernel
def RJ10 : String := "java/lang/System"
def TJ10 : u_T := fun k => match k with
  | _ => ("", "", "", false)
def tyJ10 : Nat → FieldType := fun k => match k with
  | _ => .int
abbrev wsJ100 : List Cond := u_ws RJ10 TJ10 0
theorem nmJ10 : ∀ a, a < 0 → ∀ b, b < 0 → a ≠ b → (TJ10 a).2.1 ≠ (TJ10 b).2.1 := by decide +kernel
theorem tyJ10_ok : ∀ k, k < 0 → parseFieldDescriptor (TJ10 k).2.2.1 = some (tyJ10 k) := by decide +kernel
def RJxa1e45 : String := "java/util/AbstractCollection"
def TJxa1e45 : u_T := fun k => match k with
  | _ => ("", "", "", false)
def tyJxa1e45 : Nat → FieldType := fun k => match k with
  | _ => .int
abbrev wsJxa1e450 : List Cond := u_ws RJxa1e45 TJxa1e45 0
theorem nmJxa1e45 : ∀ a, a < 0 → ∀ b, b < 0 → a ≠ b → (TJxa1e45 a).2.1 ≠ (TJxa1e45 b).2.1 := by decide +kernel
theorem tyJxa1e45_ok : ∀ k, k < 0 → parseFieldDescriptor (TJxa1e45 k).2.2.1 = some (tyJxa1e45 k) := by decide +kernel
abbrev cJxa1e45_init_da8c8 : ByteArray := prog_23_method_1_code
def yJxa1e45_init_da8c8 : MethodName := ⟨RJxa1e45, "<init>", "()V"⟩
def RJxc12de : String := "java/util/AbstractList"
def TJxc12de : u_T := fun k => match k with
  | _ => ("", "", "", false)
def tyJxc12de : Nat → FieldType := fun k => match k with
  | _ => .int
abbrev wsJxc12de0 : List Cond := u_ws RJxc12de TJxc12de 0
theorem nmJxc12de : ∀ a, a < 0 → ∀ b, b < 0 → a ≠ b → (TJxc12de a).2.1 ≠ (TJxc12de b).2.1 := by decide +kernel
theorem tyJxc12de_ok : ∀ k, k < 0 → parseFieldDescriptor (TJxc12de k).2.2.1 = some (tyJxc12de k) := by decide +kernel
abbrev cJxc12de_init_da8c8 : ByteArray := prog_24_method_1_code
def yJxc12de_init_da8c8 : MethodName := ⟨RJxc12de, "<init>", "()V"⟩
def RJx4a65c : String := "java/util/ArrayList"
def TJx4a65c : u_T := fun k => match k with
  | 0 => ("java/util/AbstractList", "modCount", "I", false)
  | 1 => ("java/util/ArrayList", "elementData", "[Ljava/lang/Object;", false)
  | _ => ("java/util/ArrayList", "size", "I", false)
def tyJx4a65c : Nat → FieldType := fun k => match k with
  | 0 => .int
  | 1 => .array (.object "java/lang/Object")
  | _ => .int
abbrev wsJx4a65c0 : List Cond := u_ws RJx4a65c TJx4a65c 3
theorem nmJx4a65c : ∀ a, a < 3 → ∀ b, b < 3 → a ≠ b → (TJx4a65c a).2.1 ≠ (TJx4a65c b).2.1 := by decide +kernel
theorem tyJx4a65c_ok : ∀ k, k < 3 → parseFieldDescriptor (TJx4a65c k).2.2.1 = some (tyJx4a65c k) := by decide +kernel
abbrev cJx4a65c_init_da8c8 : ByteArray := prog_25_method_2_code
def yJx4a65c_init_da8c8 : MethodName := ⟨RJx4a65c, "<init>", "()V"⟩
abbrev cJx4a65c_grow_92f84 : ByteArray := prog_25_method_6_code
def yJx4a65c_grow_92f84 : MethodName := ⟨RJx4a65c, "grow", "(I)[Ljava/lang/Object;"⟩
abbrev cJx4a65c_grow_d5877 : ByteArray := prog_25_method_7_code
def yJx4a65c_grow_d5877 : MethodName := ⟨RJx4a65c, "grow", "()[Ljava/lang/Object;"⟩
abbrev cJx4a65c_size_8abf5 : ByteArray := prog_25_method_8_code
def yJx4a65c_size_8abf5 : MethodName := ⟨RJx4a65c, "size", "()I"⟩
abbrev cJx4a65c_isEmpty_aae02 : ByteArray := prog_25_method_9_code
def yJx4a65c_isEmpty_aae02 : MethodName := ⟨RJx4a65c, "isEmpty", "()Z"⟩
abbrev cJx4a65c_elementData_915e3 : ByteArray := prog_25_method_18_code
def yJx4a65c_elementData_915e3 : MethodName := ⟨RJx4a65c, "elementData", "(I)Ljava/lang/Object;"⟩
abbrev cJx4a65c_get_915e3 : ByteArray := prog_25_method_20_code
def yJx4a65c_get_915e3 : MethodName := ⟨RJx4a65c, "get", "(I)Ljava/lang/Object;"⟩
abbrev cJx4a65c_add_72be8 : ByteArray := prog_25_method_24_code
def yJx4a65c_add_72be8 : MethodName := ⟨RJx4a65c, "add", "(Ljava/lang/Object;[Ljava/lang/Object;I)V"⟩
abbrev cJx4a65c_add_9ea2d : ByteArray := prog_25_method_25_code
def yJx4a65c_add_9ea2d : MethodName := ⟨RJx4a65c, "add", "(Ljava/lang/Object;)Z"⟩
abbrev cJx4a65c_remove_915e3 : ByteArray := prog_25_method_29_code
def yJx4a65c_remove_915e3 : MethodName := ⟨RJx4a65c, "remove", "(I)Ljava/lang/Object;"⟩
abbrev cJx4a65c_fastRemove_b59b0 : ByteArray := prog_25_method_39_code
def yJx4a65c_fastRemove_b59b0 : MethodName := ⟨RJx4a65c, "fastRemove", "([Ljava/lang/Object;I)V"⟩
def RJ7 : String := "java/util/Arrays"
def TJ7 : u_T := fun k => match k with
  | _ => ("", "", "", false)
def tyJ7 : Nat → FieldType := fun k => match k with
  | _ => .int
abbrev wsJ70 : List Cond := u_ws RJ7 TJ7 0
theorem nmJ7 : ∀ a, a < 0 → ∀ b, b < 0 → a ≠ b → (TJ7 a).2.1 ≠ (TJ7 b).2.1 := by decide +kernel
theorem tyJ7_ok : ∀ k, k < 0 → parseFieldDescriptor (TJ7 k).2.2.1 = some (tyJ7 k) := by decide +kernel
abbrev cJ7_copyOf_1904c : ByteArray := prog_26_method_119_code
def yJ7_copyOf_1904c : MethodName := ⟨RJ7, "copyOf", "([Ljava/lang/Object;I)[Ljava/lang/Object;"⟩
abbrev cJ7_copyOf_6403c : ByteArray := prog_26_method_120_code
def yJ7_copyOf_6403c : MethodName := ⟨RJ7, "copyOf", "([Ljava/lang/Object;ILjava/lang/Class;)[Ljava/lang/Object;"⟩
abbrev cJ7_copyOf_59c91 : ByteArray := prog_26_method_123_code
def yJ7_copyOf_59c91 : MethodName := ⟨RJ7, "copyOf", "([II)[I"⟩
def RJx5ef63 : String := "java/util/Collection"
def TJx5ef63 : u_T := fun k => match k with
  | _ => ("", "", "", false)
def tyJx5ef63 : Nat → FieldType := fun k => match k with
  | _ => .int
abbrev wsJx5ef630 : List Cond := u_ws RJx5ef63 TJx5ef63 0
theorem nmJx5ef63 : ∀ a, a < 0 → ∀ b, b < 0 → a ≠ b → (TJx5ef63 a).2.1 ≠ (TJx5ef63 b).2.1 := by decide +kernel
theorem tyJx5ef63_ok : ∀ k, k < 0 → parseFieldDescriptor (TJx5ef63 k).2.2.1 = some (tyJx5ef63 k) := by decide +kernel
def RJxbd725 : String := "java/util/List"
def TJxbd725 : u_T := fun k => match k with
  | _ => ("", "", "", false)
def tyJxbd725 : Nat → FieldType := fun k => match k with
  | _ => .int
abbrev wsJxbd7250 : List Cond := u_ws RJxbd725 TJxbd725 0
theorem nmJxbd725 : ∀ a, a < 0 → ∀ b, b < 0 → a ≠ b → (TJxbd725 a).2.1 ≠ (TJxbd725 b).2.1 := by decide +kernel
theorem tyJxbd725_ok : ∀ k, k < 0 → parseFieldDescriptor (TJxbd725 k).2.2.1 = some (tyJxbd725 k) := by decide +kernel
def RJ15 : String := "java/util/Objects"
def TJ15 : u_T := fun k => match k with
  | _ => ("", "", "", false)
def tyJ15 : Nat → FieldType := fun k => match k with
  | _ => .int
abbrev wsJ150 : List Cond := u_ws RJ15 TJ15 0
theorem nmJ15 : ∀ a, a < 0 → ∀ b, b < 0 → a ≠ b → (TJ15 a).2.1 ≠ (TJ15 b).2.1 := by decide +kernel
theorem tyJ15_ok : ∀ k, k < 0 → parseFieldDescriptor (TJ15 k).2.2.1 = some (tyJ15 k) := by decide +kernel
abbrev cJ15_checkIndex_7cf53 : ByteArray := prog_29_method_17_code
def yJ15_checkIndex_7cf53 : MethodName := ⟨RJ15, "checkIndex", "(II)I"⟩
def RJxf0a74 : String := "java/util/RandomAccess"
def TJxf0a74 : u_T := fun k => match k with
  | _ => ("", "", "", false)
def tyJxf0a74 : Nat → FieldType := fun k => match k with
  | _ => .int
abbrev wsJxf0a740 : List Cond := u_ws RJxf0a74 TJxf0a74 0
theorem nmJxf0a74 : ∀ a, a < 0 → ∀ b, b < 0 → a ≠ b → (TJxf0a74 a).2.1 ≠ (TJxf0a74 b).2.1 := by decide +kernel
theorem tyJxf0a74_ok : ∀ k, k < 0 → parseFieldDescriptor (TJxf0a74 k).2.2.1 = some (tyJxf0a74 k) := by decide +kernel
def RJxa66e6 : String := "java/util/SequencedCollection"
def TJxa66e6 : u_T := fun k => match k with
  | _ => ("", "", "", false)
def tyJxa66e6 : Nat → FieldType := fun k => match k with
  | _ => .int
abbrev wsJxa66e60 : List Cond := u_ws RJxa66e6 TJxa66e6 0
theorem nmJxa66e6 : ∀ a, a < 0 → ∀ b, b < 0 → a ≠ b → (TJxa66e6 a).2.1 ≠ (TJxa66e6 b).2.1 := by decide +kernel
theorem tyJxa66e6_ok : ∀ k, k < 0 → parseFieldDescriptor (TJxa66e6 k).2.2.1 = some (tyJxa66e6 k) := by decide +kernel
def RJ8 : String := "jdk/internal/util/ArraysSupport"
def TJ8 : u_T := fun k => match k with
  | _ => ("", "", "", false)
def tyJ8 : Nat → FieldType := fun k => match k with
  | _ => .int
abbrev wsJ80 : List Cond := u_ws RJ8 TJ8 0
theorem nmJ8 : ∀ a, a < 0 → ∀ b, b < 0 → a ≠ b → (TJ8 a).2.1 ≠ (TJ8 b).2.1 := by decide +kernel
theorem tyJ8_ok : ∀ k, k < 0 → parseFieldDescriptor (TJ8 k).2.2.1 = some (tyJ8 k) := by decide +kernel
abbrev cJ8_newLength_cabcc : ByteArray := prog_32_method_27_code
def yJ8_newLength_cabcc : MethodName := ⟨RJ8, "newLength", "(III)I"⟩
abbrev cJ8_hugeLength_7cf53 : ByteArray := prog_32_method_28_code
def yJ8_hugeLength_7cf53 : MethodName := ⟨RJ8, "hugeLength", "(II)I"⟩
def RJ3 : String := "jdk/internal/util/Preconditions"
def TJ3 : u_T := fun k => match k with
  | _ => ("", "", "", false)
def tyJ3 : Nat → FieldType := fun k => match k with
  | _ => .int
abbrev wsJ30 : List Cond := u_ws RJ3 TJ3 0
theorem nmJ3 : ∀ a, a < 0 → ∀ b, b < 0 → a ≠ b → (TJ3 a).2.1 ≠ (TJ3 b).2.1 := by decide +kernel
theorem tyJ3_ok : ∀ k, k < 0 → parseFieldDescriptor (TJ3 k).2.2.1 = some (tyJ3 k) := by decide +kernel
abbrev cJ3_checkIndex_8e157 : ByteArray := prog_33_method_11_code
def yJ3_checkIndex_8e157 : MethodName := ⟨RJ3, "checkIndex", "(IILjava/util/function/BiFunction;)I"⟩
def RL : String := "MilletcourtLaw"
abbrev cL_cell : ByteArray := method_2_code
def yL_cell : MethodName := ⟨RL, "cell", "([II)I"⟩
abbrev cL_low : ByteArray := method_3_code
def yL_low : MethodName := ⟨RL, "low", "(II)I"⟩
abbrev cL_does : ByteArray := method_4_code
def yL_does : MethodName := ⟨RL, "does", "(LMilletcourt;IIIII)J"⟩
abbrev cL_early : ByteArray := method_5_code
def yL_early : MethodName := ⟨RL, "early", "(LMilletcourt;IIIII)I"⟩
abbrev cL_bit : ByteArray := method_6_code
def yL_bit : MethodName := ⟨RL, "bit", "(Z)I"⟩
abbrev cL_act : ByteArray := method_7_code
def yL_act : MethodName := ⟨RL, "act", "(LMilletcourt;I)J"⟩
abbrev cL_areAlike : ByteArray := method_8_code
def yL_areAlike : MethodName := ⟨RL, "areAlike", "(LMilletcourt;LMilletcourt;II)Z"⟩
abbrev cL_areGoods : ByteArray := method_9_code
def yL_areGoods : MethodName := ⟨RL, "areGoods", "(LMilletcourt;J)Z"⟩
abbrev cL_areSuits : ByteArray := method_10_code
def yL_areSuits : MethodName := ⟨RL, "areSuits", "(LMilletcourt;I)Z"⟩
abbrev cL_isQuiet : ByteArray := method_11_code
def yL_isQuiet : MethodName := ⟨RL, "isQuiet", "(LMilletcourt;LMilletcourt;II)Z"⟩
abbrev cL_law : ByteArray := code
def yL_law : MethodName := ⟨RL, "law", "([I)Z"⟩
abbrev vwCl : List vw_C := [(RJx4a65c, TJx4a65c, 3), (RX0, TX0, 3), (RX1, TX1, 2), (RX2, TX2, 1), (RX3, TX3, 7), (RX4, TX4, 11), (RX5, TX5, 10), (RX6, TX6, 2), (RX7, TX7, 10)]
def zTX : List (String × Nat × String) := [("Milletcourt", 64, "there are 6 communities"), ("Milletcourt", 403, "there is no such person"), ("Milletcourt", 397, "there is no such community"), ("Milletcourt", 150, "the mother is no woman"), ("Milletcourt", 153, "the father is no man"), ("Milletcourt", 155, "a faith is told without mother and father alone"), ("Milletcourt", 157, "there are 40 persons"), ("Milletcourt", 393, "a number is out of range"), ("Milletcourt", 388, "it would be above the day 30000"), ("Milletcourt", 112, "there were 100 decrees"), ("Milletcourt", 121, "there were 40 rules"), ("Milletcourt", 166, "the person and the witnesses are not three"), ("Milletcourt", 179, "the person cannot turn to it now"), ("Milletcourt", 185, "a witness does not live, is a minor or of another faith"), ("Milletcourt", 193, "the person is not turning"), ("Milletcourt", 204, "the husband is no man, or the wife no woman"), ("Milletcourt", 207, "one does not live, or is a minor"), ("Milletcourt", 213, "the law does not take it"), ("Milletcourt", 215, "there are 30 marriages"), ("Milletcourt", 405, "there is no such marriage"), ("Milletcourt", 229, "the marriage does not last"), ("Milletcourt", 254, "the person does not live"), ("Milletcourt", 274, "both persons are the same"), ("Milletcourt", 276, "one does not live"), ("Milletcourt", 278, "there are 20 suits"), ("Milletcourt", 407, "there is no such suit"), ("Milletcourt", 409, "the suit is not seised"), ("Milletcourt", 302, "the defendant does not live"), ("Milletcourt", 311, "the person cannot be a witness in it"), ("Milletcourt", 321, "its court cannot judge it"), ("Milletcourt", 340, "it is neither won nor lost"), ("Milletcourt", 348, "it cannot be appealed any more"), ("Milletcourt", 353, "it is not won, or nothing is owed any more"), ("Milletcourt", 358, "one of both does not live"), ("Milletcourt", 377, "what is out of range")]
