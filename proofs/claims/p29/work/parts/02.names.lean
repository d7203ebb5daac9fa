/-! ===== BEGIN words of one list among another's, by their places ===== -/
theorem goodIn_r {big : List Cond} (ws : List Cond) (ps : List Nat) (hp : ws = ps.filterMap (fun i => big[i]?)) (h : ws.all goodWord = true) : GoodIn big ws := by
  intro w hw
  have h1 := List.all_eq_true.mp h w hw
  rw [hp] at hw
  obtain ⟨i, -, hi⟩ := List.mem_filterMap.mp hw
  have hm : w ∈ big := by first | exact List.mem_of_getElem? hi | exact List.getElem?_mem hi
  exact ⟨hm, good_of_word h1⟩
theorem goodIn_app {big a b : List Cond} (ha : GoodIn big a) (hb : GoodIn big b) : GoodIn big (a ++ b) := fun w h => (List.mem_append.mp h).elim (ha w) (hb w)
theorem goodIn_ca {big a b : List Cond} {c : Cond} (ha : GoodIn big (c :: a)) (hb : GoodIn big b) : GoodIn big (c :: (a ++ b)) := fun w h => (List.mem_cons.mp h).elim (fun e => ha w (List.mem_cons.mpr (Or.inl e))) (fun h => (List.mem_append.mp h).elim (fun h => ha w (List.mem_cons.mpr (Or.inr h))) (hb w))
theorem goodIn_sub {big ws : List Cond} (hm : ∀ w ∈ ws, w ∈ big) (h : ws.all goodWord = true) : GoodIn big ws := fun w hw => ⟨hm w hw, good_of_word (List.all_eq_true.mp h w hw)⟩
/-! ===== END ===== -/



/-! ===== BEGIN printed: names, fields, word lists, decode rows ===== -/
def RX0 : String := "HarpOrders$Club"
def TX0 : u_T := fun k => match k with
  | 0 => ("HarpOrders$Club", "settings", "[I", true)
  | 1 => ("HarpOrders$Club", "day", "I", false)
  | 2 => ("HarpOrders$Club", "x", "I", false)
  | 3 => ("HarpOrders$Club", "broken", "[I", true)
  | 4 => ("HarpOrders$Club", "spare", "[[I", true)
  | 5 => ("HarpOrders$Club", "wanted", "[[I", true)
  | 6 => ("HarpOrders$Club", "accounts", "[I", true)
  | 7 => ("HarpOrders$Club", "paidForStrings", "[I", true)
  | 8 => ("HarpOrders$Club", "paidForPost", "[I", true)
  | 9 => ("HarpOrders$Club", "paidForDuty", "[I", true)
  | 10 => ("HarpOrders$Club", "lost", "[I", true)
  | 11 => ("HarpOrders$Club", "parcels", "[LHarpOrders$Parcel;", true)
  | 12 => ("HarpOrders$Club", "underway", "I", false)
  | 13 => ("HarpOrders$Club", "opened", "I", false)
  | _ => ("HarpOrders$Club", "sharing", "LHarpOrders$Sharing;", true)
def tyX0 : Nat → FieldType := fun k => match k with
  | 0 => .array .int
  | 1 => .int
  | 2 => .int
  | 3 => .array .int
  | 4 => .array (.array .int)
  | 5 => .array (.array .int)
  | 6 => .array .int
  | 7 => .array .int
  | 8 => .array .int
  | 9 => .array .int
  | 10 => .array .int
  | 11 => .array (.object "HarpOrders$Parcel")
  | 12 => .int
  | 13 => .int
  | _ => .object "HarpOrders$Sharing"
abbrev wsX00 : List Cond := u_ws RX0 TX0 15
theorem nmX0 : ∀ a, a < 15 → ∀ b, b < 15 → a ≠ b → (TX0 a).2.1 ≠ (TX0 b).2.1 := by decide +kernel
theorem tyX0_ok : ∀ k, k < 15 → parseFieldDescriptor (TX0 k).2.2.1 = some (tyX0 k) := by decide +kernel
abbrev cX0_init : ByteArray := prog_2_method_1_code
def yX0_init : MethodName := ⟨RX0, "<init>", "()V"⟩
abbrev cX0_copyFrom : ByteArray := prog_2_method_2_code
def yX0_copyFrom : MethodName := ⟨RX0, "copyFrom", "(LHarpOrders$Club;)V"⟩
abbrev cX0_brokenStrings : ByteArray := prog_2_method_3_code
def yX0_brokenStrings : MethodName := ⟨RX0, "brokenStrings", "()I"⟩
abbrev cX0_underwayOf : ByteArray := prog_2_method_4_code
def yX0_underwayOf : MethodName := ⟨RX0, "underwayOf", "(I)I"⟩
abbrev cX0_dispatch : ByteArray := prog_2_method_6_code
def yX0_dispatch : MethodName := ⟨RX0, "dispatch", "(LHarpOrders$Order;I)V"⟩
abbrev cX0_charge : ByteArray := prog_2_method_7_code
def yX0_charge : MethodName := ⟨RX0, "charge", "(ILHarpOrders$Order;)V"⟩
abbrev cX0_beginDay : ByteArray := prog_2_method_8_code
def yX0_beginDay : MethodName := ⟨RX0, "beginDay", "()I"⟩
abbrev cX0_comesHome : ByteArray := prog_2_method_9_code
def yX0_comesHome : MethodName := ⟨RX0, "comesHome", "(LHarpOrders$Parcel;)Z"⟩
abbrev cX0_openAtCustoms : ByteArray := prog_2_method_10_code
def yX0_openAtCustoms : MethodName := ⟨RX0, "openAtCustoms", "(LHarpOrders$Parcel;)V"⟩
abbrev cX0_payDuty : ByteArray := prog_2_method_11_code
def yX0_payDuty : MethodName := ⟨RX0, "payDuty", "(LHarpOrders$Parcel;)V"⟩
abbrev cX0_fullPriceOf : ByteArray := prog_2_method_12_code
def yX0_fullPriceOf : MethodName := ⟨RX0, "fullPriceOf", "([I)I"⟩
abbrev cX0_unpack : ByteArray := prog_2_method_13_code
def yX0_unpack : MethodName := ⟨RX0, "unpack", "(LHarpOrders$Parcel;)V"⟩
abbrev cX0_draw : ByteArray := prog_2_method_14_code
def yX0_draw : MethodName := ⟨RX0, "draw", "(I)I"⟩
def RX1 : String := "HarpOrders$Order"
def TX1 : u_T := fun k => match k with
  | 0 => ("HarpOrders$Order", "ofGauge", "[I", true)
  | 1 => ("HarpOrders$Order", "prices", "[I", true)
  | 2 => ("HarpOrders$Order", "pieces", "I", false)
  | 3 => ("HarpOrders$Order", "value", "I", false)
  | 4 => ("HarpOrders$Order", "post", "I", false)
  | _ => ("HarpOrders$Order", "sharing", "LHarpOrders$Sharing;", true)
def tyX1 : Nat → FieldType := fun k => match k with
  | 0 => .array .int
  | 1 => .array .int
  | 2 => .int
  | 3 => .int
  | 4 => .int
  | _ => .object "HarpOrders$Sharing"
abbrev wsX10 : List Cond := u_ws RX1 TX1 6
theorem nmX1 : ∀ a, a < 6 → ∀ b, b < 6 → a ≠ b → (TX1 a).2.1 ≠ (TX1 b).2.1 := by decide +kernel
theorem tyX1_ok : ∀ k, k < 6 → parseFieldDescriptor (TX1 k).2.2.1 = some (tyX1 k) := by decide +kernel
abbrev cX1_init : ByteArray := prog_3_method_1_code
def yX1_init : MethodName := ⟨RX1, "<init>", "()V"⟩
abbrev cX1_gather : ByteArray := prog_3_method_2_code
def yX1_gather : MethodName := ⟨RX1, "gather", "(LHarpOrders$Club;I)V"⟩
abbrev cX1_addRow : ByteArray := prog_3_method_3_code
def yX1_addRow : MethodName := ⟨RX1, "addRow", "([I)V"⟩
abbrev cX1_reckon : ByteArray := prog_3_method_4_code
def yX1_reckon : MethodName := ⟨RX1, "reckon", "([I)V"⟩
abbrev cX1_cost : ByteArray := prog_3_method_5_code
def yX1_cost : MethodName := ⟨RX1, "cost", "()I"⟩
abbrev cX1_ownCost : ByteArray := prog_3_method_6_code
def yX1_ownCost : MethodName := ⟨RX1, "ownCost", "([I)I"⟩
abbrev cX1_sharePost : ByteArray := prog_3_method_7_code
def yX1_sharePost : MethodName := ⟨RX1, "sharePost", "(LHarpOrders$Club;I)V"⟩
abbrev cX1_weightOfAll : ByteArray := prog_3_method_8_code
def yX1_weightOfAll : MethodName := ⟨RX1, "weightOfAll", "([I)I"⟩
def RX2 : String := "HarpOrders$Pad"
def TX2 : u_T := fun k => match k with
  | 0 => ("HarpOrders$Pad", "signs", "[C", true)
  | _ => ("HarpOrders$Pad", "length", "I", false)
def tyX2 : Nat → FieldType := fun k => match k with
  | 0 => .array .char
  | _ => .int
abbrev wsX20 : List Cond := u_ws RX2 TX2 2
theorem nmX2 : ∀ a, a < 2 → ∀ b, b < 2 → a ≠ b → (TX2 a).2.1 ≠ (TX2 b).2.1 := by decide +kernel
theorem tyX2_ok : ∀ k, k < 2 → parseFieldDescriptor (TX2 k).2.2.1 = some (tyX2 k) := by decide +kernel
abbrev cX2_init : ByteArray := prog_4_method_1_code
def yX2_init : MethodName := ⟨RX2, "<init>", "()V"⟩
def RX3 : String := "HarpOrders$Parcel"
def TX3 : u_T := fun k => match k with
  | 0 => ("HarpOrders$Parcel", "contents", "[[I", true)
  | 1 => ("HarpOrders$Parcel", "value", "I", false)
  | 2 => ("HarpOrders$Parcel", "dueDay", "I", false)
  | _ => ("HarpOrders$Parcel", "isOpened", "Z", false)
def tyX3 : Nat → FieldType := fun k => match k with
  | 0 => .array (.array .int)
  | 1 => .int
  | 2 => .int
  | _ => .boolean
abbrev wsX30 : List Cond := u_ws RX3 TX3 4
theorem nmX3 : ∀ a, a < 4 → ∀ b, b < 4 → a ≠ b → (TX3 a).2.1 ≠ (TX3 b).2.1 := by decide +kernel
theorem tyX3_ok : ∀ k, k < 4 → parseFieldDescriptor (TX3 k).2.2.1 = some (tyX3 k) := by decide +kernel
abbrev cX3_init : ByteArray := prog_5_method_1_code
def yX3_init : MethodName := ⟨RX3, "<init>", "()V"⟩
abbrev cX3_copyFrom : ByteArray := prog_5_method_2_code
def yX3_copyFrom : MethodName := ⟨RX3, "copyFrom", "(LHarpOrders$Parcel;)V"⟩
abbrev cX3_pieces : ByteArray := prog_5_method_3_code
def yX3_pieces : MethodName := ⟨RX3, "pieces", "()I"⟩
abbrev cX3_owners : ByteArray := prog_5_method_4_code
def yX3_owners : MethodName := ⟨RX3, "owners", "()I"⟩
abbrev cX3_loseString : ByteArray := prog_5_method_5_code
def yX3_loseString : MethodName := ⟨RX3, "loseString", "(I)I"⟩
def RX4 : String := "HarpOrders$Sharing"
def TX4 : u_T := fun k => match k with
  | 0 => ("HarpOrders$Sharing", "parts", "[I", true)
  | _ => ("HarpOrders$Sharing", "shares", "[I", true)
def tyX4 : Nat → FieldType := fun k => match k with
  | 0 => .array .int
  | _ => .array .int
abbrev wsX40 : List Cond := u_ws RX4 TX4 2
theorem nmX4 : ∀ a, a < 2 → ∀ b, b < 2 → a ≠ b → (TX4 a).2.1 ≠ (TX4 b).2.1 := by decide +kernel
theorem tyX4_ok : ∀ k, k < 2 → parseFieldDescriptor (TX4 k).2.2.1 = some (tyX4 k) := by decide +kernel
abbrev cX4_init : ByteArray := prog_6_method_1_code
def yX4_init : MethodName := ⟨RX4, "<init>", "()V"⟩
abbrev cX4_divide : ByteArray := prog_6_method_2_code
def yX4_divide : MethodName := ⟨RX4, "divide", "(I)V"⟩
def RX5 : String := "HarpOrders"
def TX5 : u_T := fun k => match k with
  | 0 => ("HarpOrders", "club", "LHarpOrders$Club;", true)
  | 1 => ("HarpOrders", "trial", "LHarpOrders$Club;", true)
  | 2 => ("HarpOrders", "history", "[LHarpOrders$Club;", true)
  | 3 => ("HarpOrders", "kept", "I", false)
  | 4 => ("HarpOrders", "slots", "[LHarpOrders$Club;", true)
  | 5 => ("HarpOrders", "isSaved", "[Z", true)
  | 6 => ("HarpOrders", "pad", "LHarpOrders$Pad;", true)
  | _ => ("HarpOrders", "draft", "LHarpOrders$Order;", true)
def tyX5 : Nat → FieldType := fun k => match k with
  | 0 => .object "HarpOrders$Club"
  | 1 => .object "HarpOrders$Club"
  | 2 => .array (.object "HarpOrders$Club")
  | 3 => .int
  | 4 => .array (.object "HarpOrders$Club")
  | 5 => .array .boolean
  | 6 => .object "HarpOrders$Pad"
  | _ => .object "HarpOrders$Order"
abbrev wsX50 : List Cond := u_ws RX5 TX5 8
theorem nmX5 : ∀ a, a < 8 → ∀ b, b < 8 → a ≠ b → (TX5 a).2.1 ≠ (TX5 b).2.1 := by decide +kernel
theorem tyX5_ok : ∀ k, k < 8 → parseFieldDescriptor (TX5 k).2.2.1 = some (tyX5 k) := by decide +kernel
abbrev cX5_init : ByteArray := prog_1_method_1_code
def yX5_init : MethodName := ⟨RX5, "<init>", "()V"⟩
abbrev cX5_set : ByteArray := prog_1_method_2_code
def yX5_set : MethodName := ⟨RX5, "set", "(II)I"⟩
abbrev cX5_snap : ByteArray := prog_1_method_3_code
def yX5_snap : MethodName := ⟨RX5, "snap", "(II)I"⟩
abbrev cX5_fit : ByteArray := prog_1_method_4_code
def yX5_fit : MethodName := ⟨RX5, "fit", "(III)I"⟩
abbrev cX5_want : ByteArray := prog_1_method_5_code
def yX5_want : MethodName := ⟨RX5, "want", "(III)I"⟩
abbrev cX5_pay : ByteArray := prog_1_method_7_code
def yX5_pay : MethodName := ⟨RX5, "pay", "(II)I"⟩
abbrev cX5_give : ByteArray := prog_1_method_8_code
def yX5_give : MethodName := ⟨RX5, "give", "(IIII)I"⟩
abbrev cX5_send : ByteArray := prog_1_method_9_code
def yX5_send : MethodName := ⟨RX5, "send", "(I)I"⟩
abbrev cX5_pass : ByteArray := prog_1_method_10_code
def yX5_pass : MethodName := ⟨RX5, "pass", "(I)I"⟩
abbrev cX5_shuffle : ByteArray := prog_1_method_11_code
def yX5_shuffle : MethodName := ⟨RX5, "shuffle", "(I)I"⟩
abbrev cX5_member : ByteArray := prog_1_method_12_code
def yX5_member : MethodName := ⟨RX5, "member", "(II)I"⟩
abbrev cX5_strings : ByteArray := prog_1_method_13_code
def yX5_strings : MethodName := ⟨RX5, "strings", "(IIZ)I"⟩
abbrev cX5_parcel : ByteArray := prog_1_method_14_code
def yX5_parcel : MethodName := ⟨RX5, "parcel", "(II)I"⟩
abbrev cX5_count : ByteArray := prog_1_method_15_code
def yX5_count : MethodName := ⟨RX5, "count", "(I)I"⟩
abbrev cX5_order : ByteArray := prog_1_method_16_code
def yX5_order : MethodName := ⟨RX5, "order", "(II)I"⟩
abbrev cX5_share : ByteArray := prog_1_method_17_code
def yX5_share : MethodName := ⟨RX5, "share", "(II)I"⟩
abbrev cX5_ifMore : ByteArray := prog_1_method_18_code
def yX5_ifMore : MethodName := ⟨RX5, "ifMore", "(III)I"⟩
abbrev cX5_bestParting : ByteArray := prog_1_method_19_code
def yX5_bestParting : MethodName := ⟨RX5, "bestParting", "(I)I"⟩
abbrev cX5_standIn : ByteArray := prog_1_method_20_code
def yX5_standIn : MethodName := ⟨RX5, "standIn", "(II)I"⟩
abbrev cX5_untilHome : ByteArray := prog_1_method_21_code
def yX5_untilHome : MethodName := ⟨RX5, "untilHome", "()I"⟩
abbrev cX5_undo : ByteArray := prog_1_method_25_code
def yX5_undo : MethodName := ⟨RX5, "undo", "()I"⟩
abbrev cX5_remember : ByteArray := prog_1_method_28_code
def yX5_remember : MethodName := ⟨RX5, "remember", "()V"⟩
abbrev cX5_costOf : ByteArray := prog_1_method_29_code
def yX5_costOf : MethodName := ⟨RX5, "costOf", "(I)I"⟩
abbrev cX5_pencePartedAt : ByteArray := prog_1_method_30_code
def yX5_pencePartedAt : MethodName := ⟨RX5, "pencePartedAt", "(I)I"⟩
abbrev cX5_costWithDuty : ByteArray := prog_1_method_31_code
def yX5_costWithDuty : MethodName := ⟨RX5, "costWithDuty", "(I)I"⟩
abbrev cX5_isMember : ByteArray := prog_1_method_32_code
def yX5_isMember : MethodName := ⟨RX5, "isMember", "(I)Z"⟩
abbrev cX5_isGauge : ByteArray := prog_1_method_33_code
def yX5_isGauge : MethodName := ⟨RX5, "isGauge", "(I)Z"⟩
abbrev cX5_isSet : ByteArray := prog_1_method_34_code
def yX5_isSet : MethodName := ⟨RX5, "isSet", "(I)Z"⟩
abbrev cX5_isIn : ByteArray := prog_1_method_35_code
def yX5_isIn : MethodName := ⟨RX5, "isIn", "(II)Z"⟩
abbrev cX5_priceOf : ByteArray := prog_1_method_36_code
def yX5_priceOf : MethodName := ⟨RX5, "priceOf", "(I)I"⟩
abbrev cX5_weightOf : ByteArray := prog_1_method_37_code
def yX5_weightOf : MethodName := ⟨RX5, "weightOf", "(I)I"⟩
abbrev cX5_dutyOn : ByteArray := prog_1_method_38_code
def yX5_dutyOn : MethodName := ⟨RX5, "dutyOn", "(I[I)I"⟩
abbrev cX5_sumOf : ByteArray := prog_1_method_39_code
def yX5_sumOf : MethodName := ⟨RX5, "sumOf", "([I)I"⟩
abbrev cX5_copyRow : ByteArray := prog_1_method_40_code
def yX5_copyRow : MethodName := ⟨RX5, "copyRow", "([I[I)V"⟩
abbrev cX5_copyTable : ByteArray := prog_1_method_41_code
def yX5_copyTable : MethodName := ⟨RX5, "copyTable", "([[I[[I)V"⟩
def RX6 : String := "HarpOrdersModel"
def TX6 : u_T := fun k => match k with
  | _ => ("", "", "", false)
def tyX6 : Nat → FieldType := fun k => match k with
  | _ => .int
abbrev wsX60 : List Cond := u_ws RX6 TX6 0
theorem nmX6 : ∀ a, a < 0 → ∀ b, b < 0 → a ≠ b → (TX6 a).2.1 ≠ (TX6 b).2.1 := by decide +kernel
theorem tyX6_ok : ∀ k, k < 0 → parseFieldDescriptor (TX6 k).2.2.1 = some (tyX6 k) := by decide +kernel
def RJx8e188 : String := "java/lang/Cloneable"
def TJx8e188 : u_T := fun k => match k with
  | _ => ("", "", "", false)
def tyJx8e188 : Nat → FieldType := fun k => match k with
  | _ => .int
abbrev wsJx8e1880 : List Cond := u_ws RJx8e188 TJx8e188 0
theorem nmJx8e188 : ∀ a, a < 0 → ∀ b, b < 0 → a ≠ b → (TJx8e188 a).2.1 ≠ (TJx8e188 b).2.1 := by decide +kernel
theorem tyJx8e188_ok : ∀ k, k < 0 → parseFieldDescriptor (TJx8e188 k).2.2.1 = some (tyJx8e188 k) := by decide +kernel
def RJ6 : String := "java/lang/Integer"
def TJ6 : u_T := fun k => match k with
  | _ => ("", "", "", false)
def tyJ6 : Nat → FieldType := fun k => match k with
  | _ => .int
abbrev wsJ60 : List Cond := u_ws RJ6 TJ6 0
theorem nmJ6 : ∀ a, a < 0 → ∀ b, b < 0 → a ≠ b → (TJ6 a).2.1 ≠ (TJ6 b).2.1 := by decide +kernel
theorem tyJ6_ok : ∀ k, k < 0 → parseFieldDescriptor (TJ6 k).2.2.1 = some (tyJ6 k) := by decide +kernel
abbrev cJ6_bitCount_0f7a4 : ByteArray := prog_10_method_49_code
def yJ6_bitCount_0f7a4 : MethodName := ⟨RJ6, "bitCount", "(I)I"⟩
def RJ9 : String := "java/lang/Math"
def TJ9 : u_T := fun k => match k with
  | _ => ("", "", "", false)
def tyJ9 : Nat → FieldType := fun k => match k with
  | _ => .int
abbrev wsJ90 : List Cond := u_ws RJ9 TJ9 0
theorem nmJ9 : ∀ a, a < 0 → ∀ b, b < 0 → a ≠ b → (TJ9 a).2.1 ≠ (TJ9 b).2.1 := by decide +kernel
theorem tyJ9_ok : ∀ k, k < 0 → parseFieldDescriptor (TJ9 k).2.2.1 = some (tyJ9 k) := by decide +kernel
abbrev cJ9_abs_0f7a4 : ByteArray := prog_11_method_59_code
def yJ9_abs_0f7a4 : MethodName := ⟨RJ9, "abs", "(I)I"⟩
abbrev cJ9_max_7cf53 : ByteArray := prog_11_method_65_code
def yJ9_max_7cf53 : MethodName := ⟨RJ9, "max", "(II)I"⟩
abbrev cJ9_min_7cf53 : ByteArray := prog_11_method_69_code
def yJ9_min_7cf53 : MethodName := ⟨RJ9, "min", "(II)I"⟩
def RJ10 : String := "java/lang/System"
def TJ10 : u_T := fun k => match k with
  | _ => ("", "", "", false)
def tyJ10 : Nat → FieldType := fun k => match k with
  | _ => .int
abbrev wsJ100 : List Cond := u_ws RJ10 TJ10 0
theorem nmJ10 : ∀ a, a < 0 → ∀ b, b < 0 → a ≠ b → (TJ10 a).2.1 ≠ (TJ10 b).2.1 := by decide +kernel
theorem tyJ10_ok : ∀ k, k < 0 → parseFieldDescriptor (TJ10 k).2.2.1 = some (tyJ10 k) := by decide +kernel
def RJ7 : String := "java/util/Arrays"
def TJ7 : u_T := fun k => match k with
  | _ => ("", "", "", false)
def tyJ7 : Nat → FieldType := fun k => match k with
  | _ => .int
abbrev wsJ70 : List Cond := u_ws RJ7 TJ7 0
theorem nmJ7 : ∀ a, a < 0 → ∀ b, b < 0 → a ≠ b → (TJ7 a).2.1 ≠ (TJ7 b).2.1 := by decide +kernel
theorem tyJ7_ok : ∀ k, k < 0 → parseFieldDescriptor (TJ7 k).2.2.1 = some (tyJ7 k) := by decide +kernel
abbrev cJ7_fill_53178 : ByteArray := prog_13_method_103_code
def yJ7_fill_53178 : MethodName := ⟨RJ7, "fill", "([II)V"⟩
def RL : String := "HarpOrdersLaw"
abbrev cL_cell : ByteArray := method_2_code
def yL_cell : MethodName := ⟨RL, "cell", "([II)I"⟩
abbrev cL_low : ByteArray := method_3_code
def yL_low : MethodName := ⟨RL, "low", "(II)I"⟩
abbrev cL_change : ByteArray := method_4_code
def yL_change : MethodName := ⟨RL, "change", "(LHarpOrders;[IIII)I"⟩
abbrev cL_isOrder : ByteArray := method_5_code
def yL_isOrder : MethodName := ⟨RL, "isOrder", "(LHarpOrders;I)Z"⟩
abbrev cL_parted : ByteArray := method_6_code
def yL_parted : MethodName := ⟨RL, "parted", "(LHarpOrders;I)I"⟩
abbrev cL_isHarp : ByteArray := method_7_code
def yL_isHarp : MethodName := ⟨RL, "isHarp", "(LHarpOrders;II)Z"⟩
abbrev cL_holds : ByteArray := method_8_code
def yL_holds : MethodName := ⟨RL, "holds", "(LHarpOrders;[II)Z"⟩
abbrev cL_tries : ByteArray := method_9_code
def yL_tries : MethodName := ⟨RL, "tries", "(LHarpOrders;I)Z"⟩
abbrev cL_passes : ByteArray := method_10_code
def yL_passes : MethodName := ⟨RL, "passes", "(LHarpOrders;IIZ)Z"⟩
abbrev cL_law : ByteArray := code
def yL_law : MethodName := ⟨RL, "law", "([I)Z"⟩
set_option maxRecDepth 20000 in
theorem inX0 : ∀ w ∈ wsX00, w ∈ lw_tbl := by decide +kernel
set_option maxRecDepth 20000 in
theorem inX1 : ∀ w ∈ wsX10, w ∈ lw_tbl := by decide +kernel
set_option maxRecDepth 20000 in
theorem inX2 : ∀ w ∈ wsX20, w ∈ lw_tbl := by decide +kernel
set_option maxRecDepth 20000 in
theorem inX3 : ∀ w ∈ wsX30, w ∈ lw_tbl := by decide +kernel
set_option maxRecDepth 20000 in
theorem inX4 : ∀ w ∈ wsX40, w ∈ lw_tbl := by decide +kernel
set_option maxRecDepth 20000 in
theorem inX5 : ∀ w ∈ wsX50, w ∈ lw_tbl := by decide +kernel
abbrev vwCl : List vw_C := [(RX0, TX0, 15), (RX1, TX1, 6), (RX2, TX2, 2), (RX3, TX3, 4), (RX4, TX4, 2), (RX5, TX5, 8)]
