-- names of classes, fields and methods, out of the printed names of this claim
/-! ===== BEGIN words of one list among another's, by their places ===== -/
theorem goodIn_r {big : List Cond} (ws : List Cond) (ps : List Nat) (hp : ws = ps.filterMap (fun i => big[i]?)) (h : ws.all goodWord = true) : GoodIn big ws := by
  intro w hw
  have h1 := List.all_eq_true.mp h w hw
  rw [hp] at hw
  obtain ⟨i, -, hi⟩ := List.mem_filterMap.mp hw
  have hm : w ∈ big := by first | exact List.mem_of_getElem? hi | exact List.getElem?_mem hi
  exact ⟨hm, good_of_word h1⟩
theorem goodIn_app {big a b : List Cond} (ha : GoodIn big a) (hb : GoodIn big b) : GoodIn big (a ++ b) := fun w h => (List.mem_append.mp h).elim (ha w) (hb w)
theorem goodIn_ca {big a b : List Cond} {c : Cond} (ha : GoodIn big (c :: a)) (hb : GoodIn big b) : GoodIn big (c :: (a ++ b)) := fun w h => (List.mem_cons.mp h).elim (fun e => ha w (List.mem_cons.mpr (Or.inl e))) (fun h => (List.mem_append.mp h).elim (fun h => ha w (List.mem_cons.mpr (Or.inr h))) (hb w))
theorem goodIn_sub {big ws : List Cond} (hm : ∀ w ∈ ws, w ∈ big) (h : ws.all goodWord = true) : GoodIn big ws := fun w hw => ⟨hm w hw, good_of_word (List.all_eq_true.mp h w hw)⟩
/-! ===== END ===== -/

def RX0 : String := "LastForemost$Church"
def TX0 : u_T := fun k => match k with
  | 0 => ("LastForemost$Church", "people", "LLastForemost$People;", true)
  | 1 => ("LastForemost$Church", "rain", "LLastForemost$Rain;", true)
  | 2 => ("LastForemost$Church", "rules", "LLastForemost$Rules;", true)
  | 3 => ("LastForemost$Church", "seats", "[I", true)
  | 4 => ("LastForemost$Church", "sitters", "[I", true)
  | _ => ("LastForemost$Church", "taken", "I", false)
def tyX0 : Nat → FieldType := fun k => match k with
  | 0 => .object "LastForemost$People"
  | 1 => .object "LastForemost$Rain"
  | 2 => .object "LastForemost$Rules"
  | 3 => .array .int
  | 4 => .array .int
  | _ => .int
abbrev wsX00 : List Cond := u_ws RX0 TX0 6
theorem nmX0 : ∀ a, a < 6 → ∀ b, b < 6 → a ≠ b → (TX0 a).2.1 ≠ (TX0 b).2.1 := by decide +kernel
theorem tyX0_ok : ∀ k, k < 6 → parseFieldDescriptor (TX0 k).2.2.1 = some (tyX0 k) := by decide +kernel
abbrev cX0_init : ByteArray := prog_2_method_1_code
def yX0_init : MethodName := ⟨RX0, "<init>", "(LLastForemost$People;LLastForemost$Rain;LLastForemost$Rules;)V"⟩
abbrev cX0_fill : ByteArray := prog_2_method_2_code
def yX0_fill : MethodName := ⟨RX0, "fill", "([III)V"⟩
abbrev cX0_takeIn : ByteArray := prog_2_method_3_code
def yX0_takeIn : MethodName := ⟨RX0, "takeIn", "(I[II)V"⟩
abbrev cX0_movesUp : ByteArray := prog_2_method_4_code
def yX0_movesUp : MethodName := ⟨RX0, "movesUp", "(III)Z"⟩
abbrev cX0_worth : ByteArray := prog_2_method_5_code
def yX0_worth : MethodName := ⟨RX0, "worth", "(II)I"⟩
abbrev cX0_loveBeside : ByteArray := prog_2_method_6_code
def yX0_loveBeside : MethodName := ⟨RX0, "loveBeside", "(II)I"⟩
abbrev cX0_swap : ByteArray := prog_2_method_7_code
def yX0_swap : MethodName := ⟨RX0, "swap", "(II)V"⟩
abbrev cX0_pewsTaken : ByteArray := prog_2_method_8_code
def yX0_pewsTaken : MethodName := ⟨RX0, "pewsTaken", "()I"⟩
def RX1 : String := "LastForemost$Facts"
def TX1 : u_T := fun k => match k with
  | 0 => ("LastForemost$Facts", "kinds", "[I", true)
  | 1 => ("LastForemost$Facts", "persons", "[I", true)
  | 2 => ("LastForemost$Facts", "others", "[I", true)
  | _ => ("LastForemost$Facts", "size", "I", false)
def tyX1 : Nat → FieldType := fun k => match k with
  | 0 => .array .int
  | 1 => .array .int
  | 2 => .array .int
  | _ => .int
abbrev wsX10 : List Cond := u_ws RX1 TX1 4
theorem nmX1 : ∀ a, a < 4 → ∀ b, b < 4 → a ≠ b → (TX1 a).2.1 ≠ (TX1 b).2.1 := by decide +kernel
theorem tyX1_ok : ∀ k, k < 4 → parseFieldDescriptor (TX1 k).2.2.1 = some (tyX1 k) := by decide +kernel
abbrev cX1_init : ByteArray := prog_3_method_1_code
def yX1_init : MethodName := ⟨RX1, "<init>", "()V"⟩
abbrev cX1_add : ByteArray := prog_3_method_2_code
def yX1_add : MethodName := ⟨RX1, "add", "(III)V"⟩
def RX2 : String := "LastForemost$Game"
def TX2 : u_T := fun k => match k with
  | 0 => ("LastForemost$Game", "bits", "I", true)
  | 1 => ("LastForemost$Game", "lastChoice", "I", true)
  | 2 => ("LastForemost$Game", "shifts", "[I", true)
  | 3 => ("LastForemost$Game", "players", "I", false)
  | 4 => ("LastForemost$Game", "worths", "[I", false)
  | 5 => ("LastForemost$Game", "rows", "I", false)
  | 6 => ("LastForemost$Game", "stableRows", "I", false)
  | _ => ("LastForemost$Game", "firstStable", "I", false)
def tyX2 : Nat → FieldType := fun k => match k with
  | 0 => .int
  | 1 => .int
  | 2 => .array .int
  | 3 => .int
  | 4 => .array .int
  | 5 => .int
  | 6 => .int
  | _ => .int
abbrev wsX20 : List Cond := u_ws RX2 TX2 8
theorem nmX2 : ∀ a, a < 8 → ∀ b, b < 8 → a ≠ b → (TX2 a).2.1 ≠ (TX2 b).2.1 := by decide +kernel
theorem tyX2_ok : ∀ k, k < 8 → parseFieldDescriptor (TX2 k).2.2.1 = some (tyX2 k) := by decide +kernel
abbrev cX2_init : ByteArray := prog_4_method_1_code
def yX2_init : MethodName := ⟨RX2, "<init>", "(I)V"⟩
abbrev cX2_open : ByteArray := prog_4_method_2_code
def yX2_open : MethodName := ⟨RX2, "open", "(IZ)V"⟩
abbrev cX2_choice : ByteArray := prog_4_method_3_code
def yX2_choice : MethodName := ⟨RX2, "choice", "(II)I"⟩
abbrev cX2_note : ByteArray := prog_4_method_4_code
def yX2_note : MethodName := ⟨RX2, "note", "(III)V"⟩
abbrev cX2_settle : ByteArray := prog_4_method_5_code
def yX2_settle : MethodName := ⟨RX2, "settle", "()V"⟩
abbrev cX2_isStable : ByteArray := prog_4_method_6_code
def yX2_isStable : MethodName := ⟨RX2, "isStable", "(I)Z"⟩
abbrev cX2_wouldLeave : ByteArray := prog_4_method_7_code
def yX2_wouldLeave : MethodName := ⟨RX2, "wouldLeave", "(II)Z"⟩
def RX3 : String := "LastForemost$Orders"
def TX3 : u_T := fun k => match k with
  | 0 => ("LastForemost$Orders", "waysTo", "[I", true)
  | 1 => ("LastForemost$Orders", "waysOn", "[I", true)
  | 2 => ("LastForemost$Orders", "ahead", "[I", true)
  | 3 => ("LastForemost$Orders", "places", "[I", true)
  | 4 => ("LastForemost$Orders", "n", "I", false)
  | _ => ("LastForemost$Orders", "all", "I", false)
def tyX3 : Nat → FieldType := fun k => match k with
  | 0 => .array .int
  | 1 => .array .int
  | 2 => .array .int
  | 3 => .array .int
  | 4 => .int
  | _ => .int
abbrev wsX30 : List Cond := u_ws RX3 TX3 6
theorem nmX3 : ∀ a, a < 6 → ∀ b, b < 6 → a ≠ b → (TX3 a).2.1 ≠ (TX3 b).2.1 := by decide +kernel
theorem tyX3_ok : ∀ k, k < 6 → parseFieldDescriptor (TX3 k).2.2.1 = some (tyX3 k) := by decide +kernel
abbrev cX3_init : ByteArray := prog_5_method_1_code
def yX3_init : MethodName := ⟨RX3, "<init>", "()V"⟩
abbrev cX3_find : ByteArray := prog_5_method_2_code
def yX3_find : MethodName := ⟨RX3, "find", "(LLastForemost$Facts;II)V"⟩
abbrev cX3_heed : ByteArray := prog_5_method_3_code
def yX3_heed : MethodName := ⟨RX3, "heed", "(IIII)Z"⟩
abbrev cX3_mayCome : ByteArray := prog_5_method_4_code
def yX3_mayCome : MethodName := ⟨RX3, "mayCome", "(II)Z"⟩
abbrev cX3_countWaysTo : ByteArray := prog_5_method_5_code
def yX3_countWaysTo : MethodName := ⟨RX3, "countWaysTo", "(Z)V"⟩
abbrev cX3_countWaysOn : ByteArray := prog_5_method_6_code
def yX3_countWaysOn : MethodName := ⟨RX3, "countWaysOn", "()V"⟩
abbrev cX3_howMany : ByteArray := prog_5_method_7_code
def yX3_howMany : MethodName := ⟨RX3, "howMany", "()I"⟩
abbrev cX3_placesOf : ByteArray := prog_5_method_8_code
def yX3_placesOf : MethodName := ⟨RX3, "placesOf", "(I)I"⟩
abbrev cX3_surePairs : ByteArray := prog_5_method_9_code
def yX3_surePairs : MethodName := ⟨RX3, "surePairs", "()I"⟩
abbrev cX3_canBeFirst : ByteArray := prog_5_method_10_code
def yX3_canBeFirst : MethodName := ⟨RX3, "canBeFirst", "(II)Z"⟩
def RX4 : String := "LastForemost$People"
def TX4 : u_T := fun k => match k with
  | 0 => ("LastForemost$People", "text", "[I", true)
  | 1 => ("LastForemost$People", "minutes", "[I", true)
  | 2 => ("LastForemost$People", "wishes", "[I", true)
  | 3 => ("LastForemost$People", "length", "I", false)
  | 4 => ("LastForemost$People", "count", "I", false)
  | _ => ("LastForemost$People", "faultPlace", "I", false)
def tyX4 : Nat → FieldType := fun k => match k with
  | 0 => .array .int
  | 1 => .array .int
  | 2 => .array .int
  | 3 => .int
  | 4 => .int
  | _ => .int
abbrev wsX40 : List Cond := u_ws RX4 TX4 6
theorem nmX4 : ∀ a, a < 6 → ∀ b, b < 6 → a ≠ b → (TX4 a).2.1 ≠ (TX4 b).2.1 := by decide +kernel
theorem tyX4_ok : ∀ k, k < 6 → parseFieldDescriptor (TX4 k).2.2.1 = some (tyX4 k) := by decide +kernel
abbrev cX4_init : ByteArray := prog_6_method_1_code
def yX4_init : MethodName := ⟨RX4, "<init>", "()V"⟩
abbrev cX4_append : ByteArray := prog_6_method_2_code
def yX4_append : MethodName := ⟨RX4, "append", "(I)V"⟩
abbrev cX4_clear : ByteArray := prog_6_method_3_code
def yX4_clear : MethodName := ⟨RX4, "clear", "()V"⟩
abbrev cX4_understand : ByteArray := prog_6_method_4_code
def yX4_understand : MethodName := ⟨RX4, "understand", "()V"⟩
abbrev cX4_findFault : ByteArray := prog_6_method_5_code
def yX4_findFault : MethodName := ⟨RX4, "findFault", "()I"⟩
abbrev cX4_fits : ByteArray := prog_6_method_6_code
def yX4_fits : MethodName := ⟨RX4, "fits", "(II)Z"⟩
abbrev cX4_figure : ByteArray := prog_6_method_7_code
def yX4_figure : MethodName := ⟨RX4, "figure", "(I)I"⟩
def RX5 : String := "LastForemost$Rain"
def TX5 : u_T := fun k => match k with
  | _ => ("LastForemost$Rain", "fallenAhead", "[I", true)
def tyX5 : Nat → FieldType := fun k => match k with
  | _ => .array .int
abbrev wsX50 : List Cond := u_ws RX5 TX5 1
theorem nmX5 : ∀ a, a < 1 → ∀ b, b < 1 → a ≠ b → (TX5 a).2.1 ≠ (TX5 b).2.1 := by decide +kernel
theorem tyX5_ok : ∀ k, k < 1 → parseFieldDescriptor (TX5 k).2.2.1 = some (tyX5 k) := by decide +kernel
abbrev cX5_init : ByteArray := prog_7_method_1_code
def yX5_init : MethodName := ⟨RX5, "<init>", "()V"⟩
abbrev cX5_between : ByteArray := prog_7_method_2_code
def yX5_between : MethodName := ⟨RX5, "between", "(II)I"⟩
abbrev cX5_turn : ByteArray := prog_7_method_3_code
def yX5_turn : MethodName := ⟨RX5, "turn", "(II)V"⟩
def RX6 : String := "LastForemost$Rules"
def TX6 : u_T := fun k => match k with
  | 0 => ("LastForemost$Rules", "settings", "[I", true)
  | _ => ("LastForemost$Rules", "loves", "[[I", true)
def tyX6 : Nat → FieldType := fun k => match k with
  | 0 => .array .int
  | _ => .array (.array .int)
abbrev wsX60 : List Cond := u_ws RX6 TX6 2
theorem nmX6 : ∀ a, a < 2 → ∀ b, b < 2 → a ≠ b → (TX6 a).2.1 ≠ (TX6 b).2.1 := by decide +kernel
theorem tyX6_ok : ∀ k, k < 2 → parseFieldDescriptor (TX6 k).2.2.1 = some (tyX6 k) := by decide +kernel
abbrev cX6_init : ByteArray := prog_8_method_1_code
def yX6_init : MethodName := ⟨RX6, "<init>", "()V"⟩
abbrev cX6_seatWorth : ByteArray := prog_8_method_2_code
def yX6_seatWorth : MethodName := ⟨RX6, "seatWorth", "(II)I"⟩
abbrev cX6_wide : ByteArray := prog_8_method_3_code
def yX6_wide : MethodName := ⟨RX6, "wide", "()I"⟩
abbrev cX6_seatsBeside : ByteArray := prog_8_method_4_code
def yX6_seatsBeside : MethodName := ⟨RX6, "seatsBeside", "(II)I"⟩
def RX7 : String := "LastForemost$Sheet"
def TX7 : u_T := fun k => match k with
  | 0 => ("LastForemost$Sheet", "items", "[I", true)
  | 1 => ("LastForemost$Sheet", "form", "I", false)
  | _ => ("LastForemost$Sheet", "size", "I", false)
def tyX7 : Nat → FieldType := fun k => match k with
  | 0 => .array .int
  | 1 => .int
  | _ => .int
abbrev wsX70 : List Cond := u_ws RX7 TX7 3
theorem nmX7 : ∀ a, a < 3 → ∀ b, b < 3 → a ≠ b → (TX7 a).2.1 ≠ (TX7 b).2.1 := by decide +kernel
theorem tyX7_ok : ∀ k, k < 3 → parseFieldDescriptor (TX7 k).2.2.1 = some (tyX7 k) := by decide +kernel
abbrev cX7_init : ByteArray := prog_9_method_1_code
def yX7_init : MethodName := ⟨RX7, "<init>", "()V"⟩
abbrev cX7_isLost : ByteArray := prog_9_method_2_code
def yX7_isLost : MethodName := ⟨RX7, "isLost", "()Z"⟩
abbrev cX7_renew : ByteArray := prog_9_method_3_code
def yX7_renew : MethodName := ⟨RX7, "renew", "(II)V"⟩
abbrev cX7_findingAt : ByteArray := prog_9_method_4_code
def yX7_findingAt : MethodName := ⟨RX7, "findingAt", "(II)I"⟩
abbrev cX7_holds : ByteArray := prog_9_method_5_code
def yX7_holds : MethodName := ⟨RX7, "holds", "(II)Z"⟩
abbrev cX7_put : ByteArray := prog_9_method_6_code
def yX7_put : MethodName := ⟨RX7, "put", "(II)V"⟩
def RX8 : String := "LastForemost$Sundays"
def TX8 : u_T := fun k => match k with
  | 0 => ("LastForemost$Sundays", "told", "[I", true)
  | 1 => ("LastForemost$Sundays", "lates", "[I", true)
  | _ => ("LastForemost$Sundays", "all", "I", false)
def tyX8 : Nat → FieldType := fun k => match k with
  | 0 => .array .int
  | 1 => .array .int
  | _ => .int
abbrev wsX80 : List Cond := u_ws RX8 TX8 3
theorem nmX8 : ∀ a, a < 3 → ∀ b, b < 3 → a ≠ b → (TX8 a).2.1 ≠ (TX8 b).2.1 := by decide +kernel
theorem tyX8_ok : ∀ k, k < 3 → parseFieldDescriptor (TX8 k).2.2.1 = some (tyX8 k) := by decide +kernel
abbrev cX8_init : ByteArray := prog_10_method_1_code
def yX8_init : MethodName := ⟨RX8, "<init>", "()V"⟩
abbrev cX8_add : ByteArray := prog_10_method_2_code
def yX8_add : MethodName := ⟨RX8, "add", "(II)V"⟩
abbrev cX8_chanceAbove : ByteArray := prog_10_method_3_code
def yX8_chanceAbove : MethodName := ⟨RX8, "chanceAbove", "(I)I"⟩
abbrev cX8_chanceBelow : ByteArray := prog_10_method_4_code
def yX8_chanceBelow : MethodName := ⟨RX8, "chanceBelow", "(I)I"⟩
def RX9 : String := "LastForemost"
def TX9 : u_T := fun k => match k with
  | 0 => ("LastForemost", "people", "LLastForemost$People;", true)
  | 1 => ("LastForemost", "rain", "LLastForemost$Rain;", true)
  | 2 => ("LastForemost", "rules", "LLastForemost$Rules;", true)
  | 3 => ("LastForemost", "waiting", "[I", true)
  | 4 => ("LastForemost", "goingIn", "[I", true)
  | 5 => ("LastForemost", "church", "LLastForemost$Church;", true)
  | 6 => ("LastForemost", "otherChurch", "LLastForemost$Church;", true)
  | 7 => ("LastForemost", "resting", "LLastForemost$Game;", true)
  | 8 => ("LastForemost", "choosing", "LLastForemost$Game;", true)
  | 9 => ("LastForemost", "facts", "LLastForemost$Facts;", true)
  | 10 => ("LastForemost", "orders", "LLastForemost$Orders;", true)
  | 11 => ("LastForemost", "sundays", "LLastForemost$Sundays;", true)
  | 12 => ("LastForemost", "sheets", "[LLastForemost$Sheet;", true)
  | 13 => ("LastForemost", "latestFinding", "I", false)
  | 14 => ("LastForemost", "restingKnown", "Z", false)
  | 15 => ("LastForemost", "choosingKnown", "Z", false)
  | _ => ("LastForemost", "ordersKnown", "Z", false)
def tyX9 : Nat → FieldType := fun k => match k with
  | 0 => .object "LastForemost$People"
  | 1 => .object "LastForemost$Rain"
  | 2 => .object "LastForemost$Rules"
  | 3 => .array .int
  | 4 => .array .int
  | 5 => .object "LastForemost$Church"
  | 6 => .object "LastForemost$Church"
  | 7 => .object "LastForemost$Game"
  | 8 => .object "LastForemost$Game"
  | 9 => .object "LastForemost$Facts"
  | 10 => .object "LastForemost$Orders"
  | 11 => .object "LastForemost$Sundays"
  | 12 => .array (.object "LastForemost$Sheet")
  | 13 => .int
  | 14 => .boolean
  | 15 => .boolean
  | _ => .boolean
abbrev wsX90 : List Cond := u_ws RX9 TX9 17
theorem nmX9 : ∀ a, a < 17 → ∀ b, b < 17 → a ≠ b → (TX9 a).2.1 ≠ (TX9 b).2.1 := by decide +kernel
theorem tyX9_ok : ∀ k, k < 17 → parseFieldDescriptor (TX9 k).2.2.1 = some (tyX9 k) := by decide +kernel
abbrev cX9_init : ByteArray := prog_1_method_1_code
def yX9_init : MethodName := ⟨RX9, "<init>", "()V"⟩
abbrev cX9_type : ByteArray := prog_1_method_2_code
def yX9_type : MethodName := ⟨RX9, "type", "(I)I"⟩
abbrev cX9_wipe : ByteArray := prog_1_method_3_code
def yX9_wipe : MethodName := ⟨RX9, "wipe", "()I"⟩
abbrev cX9_fault : ByteArray := prog_1_method_4_code
def yX9_fault : MethodName := ⟨RX9, "fault", "()I"⟩
abbrev cX9_person : ByteArray := prog_1_method_5_code
def yX9_person : MethodName := ⟨RX9, "person", "(II)I"⟩
abbrev cX9_waits : ByteArray := prog_1_method_6_code
def yX9_waits : MethodName := ⟨RX9, "waits", "(II)I"⟩
abbrev cX9_rain : ByteArray := prog_1_method_7_code
def yX9_rain : MethodName := ⟨RX9, "rain", "(II)I"⟩
abbrev cX9_set : ByteArray := prog_1_method_8_code
def yX9_set : MethodName := ⟨RX9, "set", "(II)I"⟩
abbrev cX9_love : ByteArray := prog_1_method_9_code
def yX9_love : MethodName := ⟨RX9, "love", "(III)I"⟩
abbrev cX9_read : ByteArray := prog_1_method_10_code
def yX9_read : MethodName := ⟨RX9, "read", "(I)I"⟩
abbrev cX9_seat : ByteArray := prog_1_method_11_code
def yX9_seat : MethodName := ⟨RX9, "seat", "(I)I"⟩
abbrev cX9_who : ByteArray := prog_1_method_12_code
def yX9_who : MethodName := ⟨RX9, "who", "(I)I"⟩
abbrev cX9_has : ByteArray := prog_1_method_13_code
def yX9_has : MethodName := ⟨RX9, "has", "(I)I"⟩
abbrev cX9_best : ByteArray := prog_1_method_14_code
def yX9_best : MethodName := ⟨RX9, "best", "(II)I"⟩
abbrev cX9_rest : ByteArray := prog_1_method_15_code
def yX9_rest : MethodName := ⟨RX9, "rest", "(I)I"⟩
abbrev cX9_change : ByteArray := prog_1_method_16_code
def yX9_change : MethodName := ⟨RX9, "change", "(II)I"⟩
abbrev cX9_changes : ByteArray := prog_1_method_17_code
def yX9_changes : MethodName := ⟨RX9, "changes", "()I"⟩
abbrev cX9_churches : ByteArray := prog_1_method_18_code
def yX9_churches : MethodName := ⟨RX9, "churches", "(I)I"⟩
abbrev cX9_sat : ByteArray := prog_1_method_19_code
def yX9_sat : MethodName := ⟨RX9, "sat", "(II)I"⟩
abbrev cX9_front : ByteArray := prog_1_method_20_code
def yX9_front : MethodName := ⟨RX9, "front", "(II)I"⟩
abbrev cX9_forget : ByteArray := prog_1_method_21_code
def yX9_forget : MethodName := ⟨RX9, "forget", "()I"⟩
abbrev cX9_came : ByteArray := prog_1_method_22_code
def yX9_came : MethodName := ⟨RX9, "came", "(I)I"⟩
abbrev cX9_sure : ByteArray := prog_1_method_23_code
def yX9_sure : MethodName := ⟨RX9, "sure", "()I"⟩
abbrev cX9_fair : ByteArray := prog_1_method_24_code
def yX9_fair : MethodName := ⟨RX9, "fair", "(II)J"⟩
abbrev cX9_lot : ByteArray := prog_1_method_25_code
def yX9_lot : MethodName := ⟨RX9, "lot", "(II)I"⟩
abbrev cX9_sunday : ByteArray := prog_1_method_26_code
def yX9_sunday : MethodName := ⟨RX9, "sunday", "(II)I"⟩
abbrev cX9_late : ByteArray := prog_1_method_27_code
def yX9_late : MethodName := ⟨RX9, "late", "(II)J"⟩
abbrev cX9_allLate : ByteArray := prog_1_method_28_code
def yX9_allLate : MethodName := ⟨RX9, "allLate", "(I)J"⟩
abbrev cX9_sheet : ByteArray := prog_1_method_29_code
def yX9_sheet : MethodName := ⟨RX9, "sheet", "(III)I"⟩
abbrev cX9_lose : ByteArray := prog_1_method_30_code
def yX9_lose : MethodName := ⟨RX9, "lose", "(I)I"⟩
abbrev cX9_lay : ByteArray := prog_1_method_31_code
def yX9_lay : MethodName := ⟨RX9, "lay", "(IIII)I"⟩
abbrev cX9_get : ByteArray := prog_1_method_32_code
def yX9_get : MethodName := ⟨RX9, "get", "(III)I"⟩
abbrev cX9_copy : ByteArray := prog_1_method_33_code
def yX9_copy : MethodName := ⟨RX9, "copy", "(IIIII)I"⟩
abbrev cX9_write : ByteArray := prog_1_method_34_code
def yX9_write : MethodName := ⟨RX9, "write", "(I)I"⟩
abbrev cX9_count : ByteArray := prog_1_method_35_code
def yX9_count : MethodName := ⟨RX9, "count", "(I)I"⟩
abbrev cX9_digest : ByteArray := prog_1_method_36_code
def yX9_digest : MethodName := ⟨RX9, "digest", "()J"⟩
abbrev cX9_digestPerson : ByteArray := prog_1_method_37_code
def yX9_digestPerson : MethodName := ⟨RX9, "digestPerson", "(JI)J"⟩
abbrev cX9_within : ByteArray := prog_1_method_38_code
def yX9_within : MethodName := ⟨RX9, "within", "(III)Z"⟩
abbrev cX9_isNumber : ByteArray := prog_1_method_39_code
def yX9_isNumber : MethodName := ⟨RX9, "isNumber", "(I)Z"⟩
abbrev cX9_isSheet : ByteArray := prog_1_method_40_code
def yX9_isSheet : MethodName := ⟨RX9, "isSheet", "(I)Z"⟩
abbrev cX9_isForm : ByteArray := prog_1_method_41_code
def yX9_isForm : MethodName := ⟨RX9, "isForm", "(I)Z"⟩
abbrev cX9_isThere : ByteArray := prog_1_method_42_code
def yX9_isThere : MethodName := ⟨RX9, "isThere", "(I)Z"⟩
abbrev cX9_finding : ByteArray := prog_1_method_43_code
def yX9_finding : MethodName := ⟨RX9, "finding", "(I)I"⟩
abbrev cX9_dropAnswers : ByteArray := prog_1_method_44_code
def yX9_dropAnswers : MethodName := ⟨RX9, "dropAnswers", "()V"⟩
abbrev cX9_minuteInside : ByteArray := prog_1_method_45_code
def yX9_minuteInside : MethodName := ⟨RX9, "minuteInside", "(II)I"⟩
abbrev cX9_gather : ByteArray := prog_1_method_46_code
def yX9_gather : MethodName := ⟨RX9, "gather", "()V"⟩
abbrev cX9_seatAll : ByteArray := prog_1_method_47_code
def yX9_seatAll : MethodName := ⟨RX9, "seatAll", "()V"⟩
abbrev cX9_everybody : ByteArray := prog_1_method_48_code
def yX9_everybody : MethodName := ⟨RX9, "everybody", "()I"⟩
abbrev cX9_wouldChange : ByteArray := prog_1_method_49_code
def yX9_wouldChange : MethodName := ⟨RX9, "wouldChange", "(II)Z"⟩
abbrev cX9_findRest : ByteArray := prog_1_method_50_code
def yX9_findRest : MethodName := ⟨RX9, "findRest", "()V"⟩
abbrev cX9_waitByRow : ByteArray := prog_1_method_51_code
def yX9_waitByRow : MethodName := ⟨RX9, "waitByRow", "(I)V"⟩
abbrev cX9_findChoosing : ByteArray := prog_1_method_52_code
def yX9_findChoosing : MethodName := ⟨RX9, "findChoosing", "()V"⟩
abbrev cX9_addFact : ByteArray := prog_1_method_53_code
def yX9_addFact : MethodName := ⟨RX9, "addFact", "(III)I"⟩
abbrev cX9_findOrders : ByteArray := prog_1_method_54_code
def yX9_findOrders : MethodName := ⟨RX9, "findOrders", "()V"⟩
abbrev cX9_freeSeat : ByteArray := prog_1_method_55_code
def yX9_freeSeat : MethodName := ⟨RX9, "freeSeat", "(II)I"⟩
abbrev cX9_lowestTerms : ByteArray := prog_1_method_56_code
def yX9_lowestTerms : MethodName := ⟨RX9, "lowestTerms", "(JJI)J"⟩
abbrev cX9_commonDivisor : ByteArray := prog_1_method_57_code
def yX9_commonDivisor : MethodName := ⟨RX9, "commonDivisor", "(JJ)J"⟩
def RX10 : String := "LastForemostModel"
def TX10 : u_T := fun k => match k with
  | 0 => ("LastForemostModel", "forms", "[I", true)
  | 1 => ("LastForemostModel", "sizes", "[I", true)
  | 2 => ("LastForemostModel", "items", "[I", true)
  | 3 => ("LastForemostModel", "moved", "[I", true)
  | 4 => ("LastForemostModel", "latest", "I", false)
  | 5 => ("LastForemostModel", "text", "[I", true)
  | 6 => ("LastForemostModel", "typed", "I", false)
  | 7 => ("LastForemostModel", "at", "I", false)
  | 8 => ("LastForemostModel", "people", "I", false)
  | 9 => ("LastForemostModel", "minutes", "[I", true)
  | 10 => ("LastForemostModel", "wishes", "[I", true)
  | 11 => ("LastForemostModel", "waiting", "[I", true)
  | 12 => ("LastForemostModel", "rains", "[I", true)
  | 13 => ("LastForemostModel", "settings", "[I", true)
  | 14 => ("LastForemostModel", "loves", "[I", true)
  | 15 => ("LastForemostModel", "seats", "[I", true)
  | 16 => ("LastForemostModel", "toldWaiting", "[I", true)
  | 17 => ("LastForemostModel", "restMany", "I", false)
  | 18 => ("LastForemostModel", "restFirst", "I", false)
  | 19 => ("LastForemostModel", "facts", "I", false)
  | 20 => ("LastForemostModel", "told", "[I", true)
  | 21 => ("LastForemostModel", "order", "[I", true)
  | 22 => ("LastForemostModel", "cameAs", "[I", true)
  | 23 => ("LastForemostModel", "canBeFirst", "[Z", true)
  | 24 => ("LastForemostModel", "sums", "[J", true)
  | 25 => ("LastForemostModel", "orderMany", "I", false)
  | 26 => ("LastForemostModel", "allOrders", "I", false)
  | 27 => ("LastForemostModel", "sundays", "I", false)
  | 28 => ("LastForemostModel", "toldOf", "[I", true)
  | _ => ("LastForemostModel", "lates", "[I", true)
def tyX10 : Nat → FieldType := fun k => match k with
  | 0 => .array .int
  | 1 => .array .int
  | 2 => .array .int
  | 3 => .array .int
  | 4 => .int
  | 5 => .array .int
  | 6 => .int
  | 7 => .int
  | 8 => .int
  | 9 => .array .int
  | 10 => .array .int
  | 11 => .array .int
  | 12 => .array .int
  | 13 => .array .int
  | 14 => .array .int
  | 15 => .array .int
  | 16 => .array .int
  | 17 => .int
  | 18 => .int
  | 19 => .int
  | 20 => .array .int
  | 21 => .array .int
  | 22 => .array .int
  | 23 => .array .boolean
  | 24 => .array .long
  | 25 => .int
  | 26 => .int
  | 27 => .int
  | 28 => .array .int
  | _ => .array .int
abbrev wsX100 : List Cond := u_ws RX10 TX10 30
theorem nmX10 : ∀ a, a < 30 → ∀ b, b < 30 → a ≠ b → (TX10 a).2.1 ≠ (TX10 b).2.1 := by decide +kernel
theorem tyX10_ok : ∀ k, k < 30 → parseFieldDescriptor (TX10 k).2.2.1 = some (tyX10 k) := by decide +kernel
abbrev cX10_init : ByteArray := prog_12_method_1_code
def yX10_init : MethodName := ⟨RX10, "<init>", "()V"⟩
abbrev cX10_in : ByteArray := prog_12_method_3_code
def yX10_in : MethodName := ⟨RX10, "in", "(JJJ)Z"⟩
abbrev cX10_no : ByteArray := prog_12_method_4_code
def yX10_no : MethodName := ⟨RX10, "no", "(I)J"⟩
abbrev cX10_isTwo : ByteArray := prog_12_method_5_code
def yX10_isTwo : MethodName := ⟨RX10, "isTwo", "(I)Z"⟩
abbrev cX10_isSeven : ByteArray := prog_12_method_6_code
def yX10_isSeven : MethodName := ⟨RX10, "isSeven", "(I)Z"⟩
abbrev cX10_isIn : ByteArray := prog_12_method_7_code
def yX10_isIn : MethodName := ⟨RX10, "isIn", "(II)Z"⟩
abbrev cX10_met : ByteArray := prog_12_method_8_code
def yX10_met : MethodName := ⟨RX10, "met", "(I)I"⟩
abbrev cX10_isSheet : ByteArray := prog_12_method_9_code
def yX10_isSheet : MethodName := ⟨RX10, "isSheet", "(I)Z"⟩
abbrev cX10_sheet : ByteArray := prog_12_method_10_code
def yX10_sheet : MethodName := ⟨RX10, "sheet", "(III)I"⟩
abbrev cX10_lose : ByteArray := prog_12_method_11_code
def yX10_lose : MethodName := ⟨RX10, "lose", "(I)I"⟩
abbrev cX10_lacks : ByteArray := prog_12_method_12_code
def yX10_lacks : MethodName := ⟨RX10, "lacks", "(III)I"⟩
abbrev cX10_cut : ByteArray := prog_12_method_13_code
def yX10_cut : MethodName := ⟨RX10, "cut", "(II)I"⟩
abbrev cX10_lay : ByteArray := prog_12_method_14_code
def yX10_lay : MethodName := ⟨RX10, "lay", "(IIII)I"⟩
abbrev cX10_get : ByteArray := prog_12_method_15_code
def yX10_get : MethodName := ⟨RX10, "get", "(III)I"⟩
abbrev cX10_copy : ByteArray := prog_12_method_16_code
def yX10_copy : MethodName := ⟨RX10, "copy", "(IIIII)I"⟩
abbrev cX10_type : ByteArray := prog_12_method_17_code
def yX10_type : MethodName := ⟨RX10, "type", "(I)I"⟩
abbrev cX10_wipe : ByteArray := prog_12_method_18_code
def yX10_wipe : MethodName := ⟨RX10, "wipe", "()I"⟩
abbrev cX10_here : ByteArray := prog_12_method_19_code
def yX10_here : MethodName := ⟨RX10, "here", "()I"⟩
abbrev cX10_nobody : ByteArray := prog_12_method_20_code
def yX10_nobody : MethodName := ⟨RX10, "nobody", "()I"⟩
abbrev cX10_figure : ByteArray := prog_12_method_21_code
def yX10_figure : MethodName := ⟨RX10, "figure", "(I)I"⟩
abbrev cX10_readsPart : ByteArray := prog_12_method_22_code
def yX10_readsPart : MethodName := ⟨RX10, "readsPart", "()Z"⟩
abbrev cX10_reads : ByteArray := prog_12_method_23_code
def yX10_reads : MethodName := ⟨RX10, "reads", "()I"⟩
abbrev cX10_fault : ByteArray := prog_12_method_24_code
def yX10_fault : MethodName := ⟨RX10, "fault", "()I"⟩
abbrev cX10_isPerson : ByteArray := prog_12_method_25_code
def yX10_isPerson : MethodName := ⟨RX10, "isPerson", "(I)Z"⟩
abbrev cX10_least : ByteArray := prog_12_method_26_code
def yX10_least : MethodName := ⟨RX10, "least", "(II)I"⟩
abbrev cX10_goesIn : ByteArray := prog_12_method_27_code
def yX10_goesIn : MethodName := ⟨RX10, "goesIn", "(I)I"⟩
abbrev cX10_wet : ByteArray := prog_12_method_28_code
def yX10_wet : MethodName := ⟨RX10, "wet", "(I)I"⟩
abbrev cX10_personOf : ByteArray := prog_12_method_29_code
def yX10_personOf : MethodName := ⟨RX10, "personOf", "(II)I"⟩
abbrev cX10_person : ByteArray := prog_12_method_30_code
def yX10_person : MethodName := ⟨RX10, "person", "(II)I"⟩
abbrev cX10_waits : ByteArray := prog_12_method_31_code
def yX10_waits : MethodName := ⟨RX10, "waits", "(II)I"⟩
abbrev cX10_rain : ByteArray := prog_12_method_32_code
def yX10_rain : MethodName := ⟨RX10, "rain", "(II)I"⟩
abbrev cX10_lowOf : ByteArray := prog_12_method_33_code
def yX10_lowOf : MethodName := ⟨RX10, "lowOf", "(I)I"⟩
abbrev cX10_highOf : ByteArray := prog_12_method_34_code
def yX10_highOf : MethodName := ⟨RX10, "highOf", "(I)I"⟩
abbrev cX10_set : ByteArray := prog_12_method_35_code
def yX10_set : MethodName := ⟨RX10, "set", "(II)I"⟩
abbrev cX10_love : ByteArray := prog_12_method_36_code
def yX10_love : MethodName := ⟨RX10, "love", "(III)I"⟩
abbrev cX10_read : ByteArray := prog_12_method_37_code
def yX10_read : MethodName := ⟨RX10, "read", "(I)I"⟩
abbrev cX10_isOutside : ByteArray := prog_12_method_38_code
def yX10_isOutside : MethodName := ⟨RX10, "isOutside", "(I)Z"⟩
abbrev cX10_findSeats : ByteArray := prog_12_method_39_code
def yX10_findSeats : MethodName := ⟨RX10, "findSeats", "(II)V"⟩
abbrev cX10_whole : ByteArray := prog_12_method_40_code
def yX10_whole : MethodName := ⟨RX10, "whole", "()I"⟩
abbrev cX10_findAll : ByteArray := prog_12_method_41_code
def yX10_findAll : MethodName := ⟨RX10, "findAll", "()V"⟩
abbrev cX10_amount : ByteArray := prog_12_method_42_code
def yX10_amount : MethodName := ⟨RX10, "amount", "(I)I"⟩
abbrev cX10_worth : ByteArray := prog_12_method_43_code
def yX10_worth : MethodName := ⟨RX10, "worth", "(II)I"⟩
abbrev cX10_hasNow : ByteArray := prog_12_method_44_code
def yX10_hasNow : MethodName := ⟨RX10, "hasNow", "(II)I"⟩
abbrev cX10_seat : ByteArray := prog_12_method_45_code
def yX10_seat : MethodName := ⟨RX10, "seat", "(I)I"⟩
abbrev cX10_whoOf : ByteArray := prog_12_method_46_code
def yX10_whoOf : MethodName := ⟨RX10, "whoOf", "(I)I"⟩
abbrev cX10_who : ByteArray := prog_12_method_47_code
def yX10_who : MethodName := ⟨RX10, "who", "(I)I"⟩
abbrev cX10_hasOf : ByteArray := prog_12_method_48_code
def yX10_hasOf : MethodName := ⟨RX10, "hasOf", "(I)I"⟩
abbrev cX10_has : ByteArray := prog_12_method_49_code
def yX10_has : MethodName := ⟨RX10, "has", "(I)I"⟩
abbrev cX10_bestOf : ByteArray := prog_12_method_50_code
def yX10_bestOf : MethodName := ⟨RX10, "bestOf", "(II)I"⟩
abbrev cX10_best : ByteArray := prog_12_method_51_code
def yX10_best : MethodName := ⟨RX10, "best", "(II)I"⟩
abbrev cX10_rests : ByteArray := prog_12_method_52_code
def yX10_rests : MethodName := ⟨RX10, "rests", "()Z"⟩
abbrev cX10_findRest : ByteArray := prog_12_method_53_code
def yX10_findRest : MethodName := ⟨RX10, "findRest", "()V"⟩
abbrev cX10_restOf : ByteArray := prog_12_method_54_code
def yX10_restOf : MethodName := ⟨RX10, "restOf", "(I)I"⟩
abbrev cX10_rest : ByteArray := prog_12_method_55_code
def yX10_rest : MethodName := ⟨RX10, "rest", "(I)I"⟩
abbrev cX10_wouldChange : ByteArray := prog_12_method_56_code
def yX10_wouldChange : MethodName := ⟨RX10, "wouldChange", "(II)Z"⟩
abbrev cX10_change : ByteArray := prog_12_method_57_code
def yX10_change : MethodName := ⟨RX10, "change", "(II)I"⟩
abbrev cX10_changesNow : ByteArray := prog_12_method_58_code
def yX10_changesNow : MethodName := ⟨RX10, "changesNow", "()I"⟩
abbrev cX10_changes : ByteArray := prog_12_method_59_code
def yX10_changes : MethodName := ⟨RX10, "changes", "()I"⟩
abbrev cX10_hasIn : ByteArray := prog_12_method_60_code
def yX10_hasIn : MethodName := ⟨RX10, "hasIn", "(II)I"⟩
abbrev cX10_churchesOf : ByteArray := prog_12_method_61_code
def yX10_churchesOf : MethodName := ⟨RX10, "churchesOf", "(I)I"⟩
abbrev cX10_churches : ByteArray := prog_12_method_62_code
def yX10_churches : MethodName := ⟨RX10, "churches", "(I)I"⟩
abbrev cX10_tells : ByteArray := prog_12_method_63_code
def yX10_tells : MethodName := ⟨RX10, "tells", "(III)I"⟩
abbrev cX10_sat : ByteArray := prog_12_method_64_code
def yX10_sat : MethodName := ⟨RX10, "sat", "(II)I"⟩
abbrev cX10_front : ByteArray := prog_12_method_65_code
def yX10_front : MethodName := ⟨RX10, "front", "(II)I"⟩
abbrev cX10_forget : ByteArray := prog_12_method_66_code
def yX10_forget : MethodName := ⟨RX10, "forget", "()I"⟩
abbrev cX10_goesOn : ByteArray := prog_12_method_67_code
def yX10_goesOn : MethodName := ⟨RX10, "goesOn", "()Z"⟩
abbrev cX10_swaps : ByteArray := prog_12_method_68_code
def yX10_swaps : MethodName := ⟨RX10, "swaps", "(II)V"⟩
abbrev cX10_isSo : ByteArray := prog_12_method_69_code
def yX10_isSo : MethodName := ⟨RX10, "isSo", "()Z"⟩
abbrev cX10_looks : ByteArray := prog_12_method_70_code
def yX10_looks : MethodName := ⟨RX10, "looks", "()V"⟩
abbrev cX10_findOrders : ByteArray := prog_12_method_71_code
def yX10_findOrders : MethodName := ⟨RX10, "findOrders", "()V"⟩
abbrev cX10_cameOf : ByteArray := prog_12_method_72_code
def yX10_cameOf : MethodName := ⟨RX10, "cameOf", "(I)I"⟩
abbrev cX10_came : ByteArray := prog_12_method_73_code
def yX10_came : MethodName := ⟨RX10, "came", "(I)I"⟩
abbrev cX10_sureNow : ByteArray := prog_12_method_74_code
def yX10_sureNow : MethodName := ⟨RX10, "sureNow", "()I"⟩
abbrev cX10_sure : ByteArray := prog_12_method_75_code
def yX10_sure : MethodName := ⟨RX10, "sure", "()I"⟩
abbrev cX10_part : ByteArray := prog_12_method_76_code
def yX10_part : MethodName := ⟨RX10, "part", "(JJI)J"⟩
abbrev cX10_fairOf : ByteArray := prog_12_method_77_code
def yX10_fairOf : MethodName := ⟨RX10, "fairOf", "(II)J"⟩
abbrev cX10_fair : ByteArray := prog_12_method_78_code
def yX10_fair : MethodName := ⟨RX10, "fair", "(II)J"⟩
abbrev cX10_lotOf : ByteArray := prog_12_method_79_code
def yX10_lotOf : MethodName := ⟨RX10, "lotOf", "(II)I"⟩
abbrev cX10_lot : ByteArray := prog_12_method_80_code
def yX10_lot : MethodName := ⟨RX10, "lot", "(II)I"⟩
abbrev cX10_sunday : ByteArray := prog_12_method_81_code
def yX10_sunday : MethodName := ⟨RX10, "sunday", "(II)I"⟩
abbrev cX10_late : ByteArray := prog_12_method_82_code
def yX10_late : MethodName := ⟨RX10, "late", "(II)J"⟩
abbrev cX10_allLateOf : ByteArray := prog_12_method_83_code
def yX10_allLateOf : MethodName := ⟨RX10, "allLateOf", "(I)J"⟩
abbrev cX10_allLate : ByteArray := prog_12_method_84_code
def yX10_allLate : MethodName := ⟨RX10, "allLate", "(I)J"⟩
abbrev cX10_write : ByteArray := prog_12_method_85_code
def yX10_write : MethodName := ⟨RX10, "write", "(I)I"⟩
abbrev cX10_pews : ByteArray := prog_12_method_86_code
def yX10_pews : MethodName := ⟨RX10, "pews", "()I"⟩
abbrev cX10_count : ByteArray := prog_12_method_87_code
def yX10_count : MethodName := ⟨RX10, "count", "(I)I"⟩
abbrev cX10_digest : ByteArray := prog_12_method_88_code
def yX10_digest : MethodName := ⟨RX10, "digest", "()J"⟩
def RJx8e188 : String := "java/lang/Cloneable"
def TJx8e188 : u_T := fun k => match k with
  | _ => ("", "", "", false)
def tyJx8e188 : Nat → FieldType := fun k => match k with
  | _ => .int
abbrev wsJx8e1880 : List Cond := u_ws RJx8e188 TJx8e188 0
theorem nmJx8e188 : ∀ a, a < 0 → ∀ b, b < 0 → a ≠ b → (TJx8e188 a).2.1 ≠ (TJx8e188 b).2.1 := by decide +kernel
theorem tyJx8e188_ok : ∀ k, k < 0 → parseFieldDescriptor (TJx8e188 k).2.2.1 = some (tyJx8e188 k) := by decide +kernel
def RJ6 : String := "java/lang/Integer"
def TJ6 : u_T := fun k => match k with
  | _ => ("", "", "", false)
def tyJ6 : Nat → FieldType := fun k => match k with
  | _ => .int
abbrev wsJ60 : List Cond := u_ws RJ6 TJ6 0
theorem nmJ6 : ∀ a, a < 0 → ∀ b, b < 0 → a ≠ b → (TJ6 a).2.1 ≠ (TJ6 b).2.1 := by decide +kernel
theorem tyJ6_ok : ∀ k, k < 0 → parseFieldDescriptor (TJ6 k).2.2.1 = some (tyJ6 k) := by decide +kernel
abbrev cJ6_bitCount_0f7a4 : ByteArray := prog_14_method_49_code
def yJ6_bitCount_0f7a4 : MethodName := ⟨RJ6, "bitCount", "(I)I"⟩
def RJ9 : String := "java/lang/Math"
def TJ9 : u_T := fun k => match k with
  | _ => ("", "", "", false)
def tyJ9 : Nat → FieldType := fun k => match k with
  | _ => .int
abbrev wsJ90 : List Cond := u_ws RJ9 TJ9 0
theorem nmJ9 : ∀ a, a < 0 → ∀ b, b < 0 → a ≠ b → (TJ9 a).2.1 ≠ (TJ9 b).2.1 := by decide +kernel
theorem tyJ9_ok : ∀ k, k < 0 → parseFieldDescriptor (TJ9 k).2.2.1 = some (tyJ9 k) := by decide +kernel
abbrev cJ9_abs_0f7a4 : ByteArray := prog_15_method_59_code
def yJ9_abs_0f7a4 : MethodName := ⟨RJ9, "abs", "(I)I"⟩
abbrev cJ9_abs_067f4 : ByteArray := prog_15_method_61_code
def yJ9_abs_067f4 : MethodName := ⟨RJ9, "abs", "(J)J"⟩
abbrev cJ9_max_7cf53 : ByteArray := prog_15_method_65_code
def yJ9_max_7cf53 : MethodName := ⟨RJ9, "max", "(II)I"⟩
abbrev cJ9_max_f86c9 : ByteArray := prog_15_method_66_code
def yJ9_max_f86c9 : MethodName := ⟨RJ9, "max", "(JJ)J"⟩
abbrev cJ9_min_7cf53 : ByteArray := prog_15_method_69_code
def yJ9_min_7cf53 : MethodName := ⟨RJ9, "min", "(II)I"⟩
def RJ10 : String := "java/lang/System"
def TJ10 : u_T := fun k => match k with
  | _ => ("", "", "", false)
def tyJ10 : Nat → FieldType := fun k => match k with
  | _ => .int
abbrev wsJ100 : List Cond := u_ws RJ10 TJ10 0
theorem nmJ10 : ∀ a, a < 0 → ∀ b, b < 0 → a ≠ b → (TJ10 a).2.1 ≠ (TJ10 b).2.1 := by decide +kernel
theorem tyJ10_ok : ∀ k, k < 0 → parseFieldDescriptor (TJ10 k).2.2.1 = some (tyJ10 k) := by decide +kernel
def RL : String := "LastForemostLaw"
abbrev cL_law : ByteArray := code
def yL_law : MethodName := ⟨RL, "law", "([I)Z"⟩
-- field words in the tables
theorem inX0 : ∀ w ∈ wsX00, w ∈ lw_tbl := by
  intro w hw
  have h : wsX00 = ([175, 177, 179, 181, 183, 185] : List Nat).filterMap (fun i => lw_tbl[i]?) := by decide +kernel
  rw [h] at hw
  obtain ⟨i, -, hi⟩ := List.mem_filterMap.mp hw
  exact List.mem_of_getElem? hi
theorem inX1 : ∀ w ∈ wsX10, w ∈ lw_tbl := by
  intro w hw
  have h : wsX10 = ([237, 239, 241, 243] : List Nat).filterMap (fun i => lw_tbl[i]?) := by decide +kernel
  rw [h] at hw
  obtain ⟨i, -, hi⟩ := List.mem_filterMap.mp hw
  exact List.mem_of_getElem? hi
theorem inX2 : ∀ w ∈ wsX20, w ∈ lw_tbl := by
  intro w hw
  have h : wsX20 = ([205, 207, 209, 211, 213, 215, 217, 219] : List Nat).filterMap (fun i => lw_tbl[i]?) := by decide +kernel
  rw [h] at hw
  obtain ⟨i, -, hi⟩ := List.mem_filterMap.mp hw
  exact List.mem_of_getElem? hi
theorem inX3 : ∀ w ∈ wsX30, w ∈ lw_tbl := by
  intro w hw
  have h : wsX30 = ([258, 260, 262, 264, 266, 268] : List Nat).filterMap (fun i => lw_tbl[i]?) := by decide +kernel
  rw [h] at hw
  obtain ⟨i, -, hi⟩ := List.mem_filterMap.mp hw
  exact List.mem_of_getElem? hi
theorem inX4 : ∀ w ∈ wsX40, w ∈ lw_tbl := by
  intro w hw
  have h : wsX40 = ([108, 110, 112, 114, 116, 118] : List Nat).filterMap (fun i => lw_tbl[i]?) := by decide +kernel
  rw [h] at hw
  obtain ⟨i, -, hi⟩ := List.mem_filterMap.mp hw
  exact List.mem_of_getElem? hi
theorem inX5 : ∀ w ∈ wsX50, w ∈ lw_tbl := by
  intro w hw
  have h : wsX50 = ([129] : List Nat).filterMap (fun i => lw_tbl[i]?) := by decide +kernel
  rw [h] at hw
  obtain ⟨i, -, hi⟩ := List.mem_filterMap.mp hw
  exact List.mem_of_getElem? hi
theorem inX6 : ∀ w ∈ wsX60, w ∈ lw_tbl := by
  intro w hw
  have h : wsX60 = ([155, 157] : List Nat).filterMap (fun i => lw_tbl[i]?) := by decide +kernel
  rw [h] at hw
  obtain ⟨i, -, hi⟩ := List.mem_filterMap.mp hw
  exact List.mem_of_getElem? hi
theorem inX7 : ∀ w ∈ wsX70, w ∈ lw_tbl := by
  intro w hw
  have h : wsX70 = ([302, 304, 306] : List Nat).filterMap (fun i => lw_tbl[i]?) := by decide +kernel
  rw [h] at hw
  obtain ⟨i, -, hi⟩ := List.mem_filterMap.mp hw
  exact List.mem_of_getElem? hi
theorem inX8 : ∀ w ∈ wsX80, w ∈ lw_tbl := by
  intro w hw
  have h : wsX80 = ([282, 284, 286] : List Nat).filterMap (fun i => lw_tbl[i]?) := by decide +kernel
  rw [h] at hw
  obtain ⟨i, -, hi⟩ := List.mem_filterMap.mp hw
  exact List.mem_of_getElem? hi
theorem inX9 : ∀ w ∈ wsX90, w ∈ lw_tbl := by
  intro w hw
  have h : wsX90 = ([326, 328, 330, 332, 334, 336, 338, 340, 342, 344, 346, 348, 350, 352, 354, 356, 358] : List Nat).filterMap (fun i => lw_tbl[i]?) := by decide +kernel
  rw [h] at hw
  obtain ⟨i, -, hi⟩ := List.mem_filterMap.mp hw
  exact List.mem_of_getElem? hi
theorem inX10 : ∀ w ∈ wsX100, w ∈ lw_tbl := by
  intro w hw
  have h : wsX100 = ([840, 842, 844, 846, 848, 850, 852, 854, 856, 858, 860, 862, 864, 866, 868, 870, 872, 874, 876, 878, 880, 882, 884, 886, 888, 890, 892, 894, 896, 898] : List Nat).filterMap (fun i => lw_tbl[i]?) := by decide +kernel
  rw [h] at hw
  obtain ⟨i, -, hi⟩ := List.mem_filterMap.mp hw
  exact List.mem_of_getElem? hi
