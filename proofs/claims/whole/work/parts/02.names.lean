def RX0 : String := "ChaletRule$Beam"
def TX0 : u_T := fun k => match k with
  | 0 => ("ChaletRule$Beam", "angle", "I", false)
  | 1 => ("ChaletRule$Beam", "damp", "I", false)
  | 2 => ("ChaletRule$Beam", "wood", "I", false)
  | 3 => ("ChaletRule$Beam", "oil", "I", false)
  | 4 => ("ChaletRule$Beam", "openVents", "I", false)
  | 5 => ("ChaletRule$Beam", "weather", "I", false)
  | 6 => ("ChaletRule$Beam", "days", "I", false)
  | 7 => ("ChaletRule$Beam", "wetDays", "I", false)
  | _ => ("ChaletRule$Beam", "fineDays", "I", false)
def tyX0 : Nat → FieldType := fun k => match k with
  | 0 => .int
  | 1 => .int
  | 2 => .int
  | 3 => .int
  | 4 => .int
  | 5 => .int
  | 6 => .int
  | 7 => .int
  | _ => .int
theorem nmX0 : ∀ a, a < 9 → ∀ b, b < 9 → a ≠ b → (TX0 a).2.1 ≠ (TX0 b).2.1 := by decide +kernel
theorem tyX0_ok : ∀ k, k < 9 → parseFieldDescriptor (TX0 k).2.2.1 = some (tyX0 k) := by decide +kernel
def RX1 : String := "ChaletRule$Floods"
def TX1 : u_T := fun k => match k with
  | _ => ("", "", "", false)
def tyX1 : Nat → FieldType := fun k => match k with
  | _ => .int
theorem nmX1 : ∀ a, a < 0 → ∀ b, b < 0 → a ≠ b → (TX1 a).2.1 ≠ (TX1 b).2.1 := by decide +kernel
theorem tyX1_ok : ∀ k, k < 0 → parseFieldDescriptor (TX1 k).2.2.1 = some (tyX1 k) := by decide +kernel
def RX2 : String := "ChaletRule$Forecast"
def TX2 : u_T := fun k => match k with
  | 0 => ("ChaletRule$Forecast", "walk", "LChaletRule$Beam;", true)
  | _ => ("ChaletRule$Forecast", "firstBehind", "[I", true)
def tyX2 : Nat → FieldType := fun k => match k with
  | 0 => .object "ChaletRule$Beam"
  | _ => .array .int
theorem nmX2 : ∀ a, a < 2 → ∀ b, b < 2 → a ≠ b → (TX2 a).2.1 ≠ (TX2 b).2.1 := by decide +kernel
theorem tyX2_ok : ∀ k, k < 2 → parseFieldDescriptor (TX2 k).2.2.1 = some (tyX2 k) := by decide +kernel
def RX3 : String := "ChaletRule$Gusts"
def TX3 : u_T := fun k => match k with
  | 0 => ("ChaletRule$Gusts", "upper", "J", false)
  | 1 => ("ChaletRule$Gusts", "lower", "J", false)
  | 2 => ("ChaletRule$Gusts", "wetDays", "I", false)
  | _ => ("ChaletRule$Gusts", "walk", "LChaletRule$Beam;", true)
def tyX3 : Nat → FieldType := fun k => match k with
  | 0 => .long
  | 1 => .long
  | 2 => .int
  | _ => .object "ChaletRule$Beam"
theorem nmX3 : ∀ a, a < 4 → ∀ b, b < 4 → a ≠ b → (TX3 a).2.1 ≠ (TX3 b).2.1 := by decide +kernel
theorem tyX3_ok : ∀ k, k < 4 → parseFieldDescriptor (TX3 k).2.2.1 = some (tyX3 k) := by decide +kernel
def RX4 : String := "ChaletRule$Makes"
def TX4 : u_T := fun k => match k with
  | 0 => ("ChaletRule$Makes", "count", "I", false)
  | 1 => ("ChaletRule$Makes", "chosenDay", "I", false)
  | 2 => ("ChaletRule$Makes", "leftAtMost", "I", false)
  | 3 => ("ChaletRule$Makes", "fitting", "[I", true)
  | 4 => ("ChaletRule$Makes", "gathered", "Z", false)
  | 5 => ("ChaletRule$Makes", "walk", "LChaletRule$Beam;", true)
  | 6 => ("ChaletRule$Makes", "outBehind", "[I", true)
  | _ => ("ChaletRule$Makes", "counts", "[I", true)
def tyX4 : Nat → FieldType := fun k => match k with
  | 0 => .int
  | 1 => .int
  | 2 => .int
  | 3 => .array .int
  | 4 => .boolean
  | 5 => .object "ChaletRule$Beam"
  | 6 => .array .int
  | _ => .array .int
theorem nmX4 : ∀ a, a < 8 → ∀ b, b < 8 → a ≠ b → (TX4 a).2.1 ≠ (TX4 b).2.1 := by decide +kernel
theorem tyX4_ok : ∀ k, k < 8 → parseFieldDescriptor (TX4 k).2.2.1 = some (tyX4 k) := by decide +kernel
def RX5 : String := "ChaletRule$Past"
def TX5 : u_T := fun k => match k with
  | 0 => ("ChaletRule$Past", "acts", "I", false)
  | 1 => ("ChaletRule$Past", "images", "I", false)
  | 2 => ("ChaletRule$Past", "next", "I", false)
  | 3 => ("ChaletRule$Past", "aheadOf", "[LChaletRule$Beam;", true)
  | _ => ("ChaletRule$Past", "painted", "[LChaletRule$Beam;", true)
def tyX5 : Nat → FieldType := fun k => match k with
  | 0 => .int
  | 1 => .int
  | 2 => .int
  | 3 => .array (.object "ChaletRule$Beam")
  | _ => .array (.object "ChaletRule$Beam")
theorem nmX5 : ∀ a, a < 5 → ∀ b, b < 5 → a ≠ b → (TX5 a).2.1 ≠ (TX5 b).2.1 := by decide +kernel
theorem tyX5_ok : ∀ k, k < 5 → parseFieldDescriptor (TX5 k).2.2.1 = some (tyX5 k) := by decide +kernel
def RX6 : String := "ChaletRule$Reader"
def TX6 : u_T := fun k => match k with
  | 0 => ("ChaletRule$Reader", "fault", "I", false)
  | 1 => ("ChaletRule$Reader", "place", "I", false)
  | 2 => ("ChaletRule$Reader", "draft", "LChaletRule$Told;", false)
  | 3 => ("ChaletRule$Reader", "tape", "[B", true)
  | 4 => ("ChaletRule$Reader", "length", "I", false)
  | 5 => ("ChaletRule$Reader", "at", "I", false)
  | 6 => ("ChaletRule$Reader", "tokenKind", "I", false)
  | 7 => ("ChaletRule$Reader", "tokenPlace", "I", false)
  | 8 => ("ChaletRule$Reader", "tokenWord", "J", false)
  | 9 => ("ChaletRule$Reader", "tokenWhole", "I", false)
  | 10 => ("ChaletRule$Reader", "weatherTold", "Z", false)
  | 11 => ("ChaletRule$Reader", "fieldFound", "I", false)
  | 12 => ("ChaletRule$Reader", "names", "[J", true)
  | 13 => ("ChaletRule$Reader", "fieldsByName", "[I", true)
  | 14 => ("ChaletRule$Reader", "namesTold", "I", false)
  | _ => ("ChaletRule$Reader", "tapeBytes", "I", false)
def tyX6 : Nat → FieldType := fun k => match k with
  | 0 => .int
  | 1 => .int
  | 2 => .object "ChaletRule$Told"
  | 3 => .array .byte
  | 4 => .int
  | 5 => .int
  | 6 => .int
  | 7 => .int
  | 8 => .long
  | 9 => .int
  | 10 => .boolean
  | 11 => .int
  | 12 => .array .long
  | 13 => .array .int
  | 14 => .int
  | _ => .int
theorem nmX6 : ∀ a, a < 16 → ∀ b, b < 16 → a ≠ b → (TX6 a).2.1 ≠ (TX6 b).2.1 := by decide +kernel
theorem tyX6_ok : ∀ k, k < 16 → parseFieldDescriptor (TX6 k).2.2.1 = some (tyX6 k) := by decide +kernel
def RX7 : String := "ChaletRule$Table"
def TX7 : u_T := fun k => match k with
  | 0 => ("ChaletRule$Table", "room", "I", true)
  | 1 => ("ChaletRule$Table", "width", "I", true)
  | 2 => ("ChaletRule$Table", "cells", "[I", true)
  | _ => ("ChaletRule$Table", "count", "I", false)
def tyX7 : Nat → FieldType := fun k => match k with
  | 0 => .int
  | 1 => .int
  | 2 => .array .int
  | _ => .int
theorem nmX7 : ∀ a, a < 4 → ∀ b, b < 4 → a ≠ b → (TX7 a).2.1 ≠ (TX7 b).2.1 := by decide +kernel
theorem tyX7_ok : ∀ k, k < 4 → parseFieldDescriptor (TX7 k).2.2.1 = some (tyX7 k) := by decide +kernel
def RX8 : String := "ChaletRule$Told"
def TX8 : u_T := fun k => match k with
  | 0 => ("ChaletRule$Told", "damp", "I", false)
  | 1 => ("ChaletRule$Told", "wood", "I", false)
  | 2 => ("ChaletRule$Told", "oil", "I", false)
  | 3 => ("ChaletRule$Told", "gust", "I", false)
  | 4 => ("ChaletRule$Told", "wet", "I", false)
  | 5 => ("ChaletRule$Told", "fine", "I", false)
  | 6 => ("ChaletRule$Told", "fields", "I", false)
  | 7 => ("ChaletRule$Told", "vents", "LChaletRule$Table;", true)
  | 8 => ("ChaletRule$Told", "plans", "LChaletRule$Table;", true)
  | 9 => ("ChaletRule$Told", "saws", "LChaletRule$Table;", true)
  | _ => ("ChaletRule$Told", "ditches", "LChaletRule$Table;", true)
def tyX8 : Nat → FieldType := fun k => match k with
  | 0 => .int
  | 1 => .int
  | 2 => .int
  | 3 => .int
  | 4 => .int
  | 5 => .int
  | 6 => .int
  | 7 => .object "ChaletRule$Table"
  | 8 => .object "ChaletRule$Table"
  | 9 => .object "ChaletRule$Table"
  | _ => .object "ChaletRule$Table"
theorem nmX8 : ∀ a, a < 11 → ∀ b, b < 11 → a ≠ b → (TX8 a).2.1 ≠ (TX8 b).2.1 := by decide +kernel
theorem tyX8_ok : ∀ k, k < 11 → parseFieldDescriptor (TX8 k).2.2.1 = some (tyX8 k) := by decide +kernel
def RX9 : String := "ChaletRule$VentRows"
def TX9 : u_T := fun k => match k with
  | 0 => ("ChaletRule$VentRows", "foundRow", "I", false)
  | 1 => ("ChaletRule$VentRows", "foundScore", "I", false)
  | 2 => ("ChaletRule$VentRows", "picks", "[I", true)
  | 3 => ("ChaletRule$VentRows", "coins", "[I", true)
  | _ => ("ChaletRule$VentRows", "behind", "[LChaletRule$Beam;", true)
def tyX9 : Nat → FieldType := fun k => match k with
  | 0 => .int
  | 1 => .int
  | 2 => .array .int
  | 3 => .array .int
  | _ => .array (.object "ChaletRule$Beam")
theorem nmX9 : ∀ a, a < 5 → ∀ b, b < 5 → a ≠ b → (TX9 a).2.1 ≠ (TX9 b).2.1 := by decide +kernel
theorem tyX9_ok : ∀ k, k < 5 → parseFieldDescriptor (TX9 k).2.2.1 = some (tyX9 k) := by decide +kernel
def RX10 : String := "ChaletRule"
def TX10 : u_T := fun k => match k with
  | 0 => ("ChaletRule", "seenMakes", "LChaletRule$Makes;", true)
  | 1 => ("ChaletRule", "gusts", "LChaletRule$Gusts;", true)
  | 2 => ("ChaletRule", "reader", "LChaletRule$Reader;", true)
  | 3 => ("ChaletRule", "told", "LChaletRule$Told;", false)
  | 4 => ("ChaletRule", "hasChalet", "Z", false)
  | 5 => ("ChaletRule", "fault", "I", false)
  | 6 => ("ChaletRule", "faultPlace", "I", false)
  | 7 => ("ChaletRule", "refusal", "I", false)
  | 8 => ("ChaletRule", "now", "LChaletRule$Beam;", true)
  | 9 => ("ChaletRule", "past", "LChaletRule$Past;", true)
  | 10 => ("ChaletRule", "forecast", "LChaletRule$Forecast;", true)
  | _ => ("ChaletRule", "ventRows", "LChaletRule$VentRows;", true)
def tyX10 : Nat → FieldType := fun k => match k with
  | 0 => .object "ChaletRule$Makes"
  | 1 => .object "ChaletRule$Gusts"
  | 2 => .object "ChaletRule$Reader"
  | 3 => .object "ChaletRule$Told"
  | 4 => .boolean
  | 5 => .int
  | 6 => .int
  | 7 => .int
  | 8 => .object "ChaletRule$Beam"
  | 9 => .object "ChaletRule$Past"
  | 10 => .object "ChaletRule$Forecast"
  | _ => .object "ChaletRule$VentRows"
theorem nmX10 : ∀ a, a < 12 → ∀ b, b < 12 → a ≠ b → (TX10 a).2.1 ≠ (TX10 b).2.1 := by decide +kernel
theorem tyX10_ok : ∀ k, k < 12 → parseFieldDescriptor (TX10 k).2.2.1 = some (tyX10 k) := by decide +kernel
def RX11 : String := "ChaletRuleModel"
def TX11 : u_T := fun k => match k with
  | 0 => ("ChaletRuleModel", "thrown", "I", false)
  | 1 => ("ChaletRuleModel", "tape", "[I", true)
  | 2 => ("ChaletRuleModel", "taped", "I", false)
  | 3 => ("ChaletRuleModel", "size", "I", false)
  | 4 => ("ChaletRuleModel", "at", "I", false)
  | 5 => ("ChaletRuleModel", "end", "I", false)
  | 6 => ("ChaletRuleModel", "token", "I", false)
  | 7 => ("ChaletRuleModel", "whole", "I", false)
  | 8 => ("ChaletRuleModel", "nameSize", "I", false)
  | 9 => ("ChaletRuleModel", "fault", "I", false)
  | 10 => ("ChaletRuleModel", "place", "I", false)
  | 11 => ("ChaletRuleModel", "trouble", "I", false)
  | 12 => ("ChaletRuleModel", "letters", "[I", true)
  | 13 => ("ChaletRuleModel", "failed", "Z", false)
  | 14 => ("ChaletRuleModel", "hasChalet", "Z", false)
  | 15 => ("ChaletRuleModel", "\u0072", "[I", true)
  | 16 => ("ChaletRuleModel", "fresh", "[I", true)
  | 17 => ("ChaletRuleModel", "st", "[I", true)
  | 18 => ("ChaletRuleModel", "undone", "[I", true)
  | 19 => ("ChaletRuleModel", "kept", "[I", true)
  | 20 => ("ChaletRuleModel", "undos", "I", false)
  | 21 => ("ChaletRuleModel", "images", "I", false)
  | 22 => ("ChaletRuleModel", "trial", "[I", true)
  | 23 => ("ChaletRuleModel", "firstSeen", "[I", true)
  | 24 => ("ChaletRuleModel", "coinsNow", "I", false)
  | 25 => ("ChaletRuleModel", "leastCoins", "I", false)
  | 26 => ("ChaletRuleModel", "outs", "[I", true)
  | 27 => ("ChaletRuleModel", "often", "[I", true)
  | 28 => ("ChaletRuleModel", "makeMany", "I", false)
  | 29 => ("ChaletRuleModel", "woods", "I", false)
  | 30 => ("ChaletRuleModel", "oils", "I", false)
  | 31 => ("ChaletRuleModel", "leftThen", "I", false)
  | 32 => ("ChaletRuleModel", "levels", "[I", true)
  | 33 => ("ChaletRuleModel", "level", "[I", true)
  | 34 => ("ChaletRuleModel", "ditchNow", "I", false)
  | 35 => ("ChaletRuleModel", "carriesNow", "I", false)
  | 36 => ("ChaletRuleModel", "weights", "[J", true)
  | 37 => ("ChaletRuleModel", "allWeight", "J", false)
  | 38 => ("ChaletRuleModel", "angleSum", "J", false)
  | _ => ("ChaletRuleModel", "wetMany", "I", false)
def tyX11 : Nat → FieldType := fun k => match k with
  | 0 => .int
  | 1 => .array .int
  | 2 => .int
  | 3 => .int
  | 4 => .int
  | 5 => .int
  | 6 => .int
  | 7 => .int
  | 8 => .int
  | 9 => .int
  | 10 => .int
  | 11 => .int
  | 12 => .array .int
  | 13 => .boolean
  | 14 => .boolean
  | 15 => .array .int
  | 16 => .array .int
  | 17 => .array .int
  | 18 => .array .int
  | 19 => .array .int
  | 20 => .int
  | 21 => .int
  | 22 => .array .int
  | 23 => .array .int
  | 24 => .int
  | 25 => .int
  | 26 => .array .int
  | 27 => .array .int
  | 28 => .int
  | 29 => .int
  | 30 => .int
  | 31 => .int
  | 32 => .array .int
  | 33 => .array .int
  | 34 => .int
  | 35 => .int
  | 36 => .array .long
  | 37 => .long
  | 38 => .long
  | _ => .int
theorem nmX11 : ∀ a, a < 40 → ∀ b, b < 40 → a ≠ b → (TX11 a).2.1 ≠ (TX11 b).2.1 := by decide +kernel
theorem tyX11_ok : ∀ k, k < 40 → parseFieldDescriptor (TX11 k).2.2.1 = some (tyX11 k) := by decide +kernel
def RJ9 : String := "java/lang/Math"
def RJ0 : String := "java/lang/String"
def RJ1 : String := "java/lang/StringLatin1"
def RJ2 : String := "java/lang/StringUTF16"
def RJ7 : String := "java/util/Arrays"
def RJ3 : String := "jdk/internal/util/Preconditions"
def RL : String := "ChaletRuleLaw"
abbrev MI : Type := MethodName × ByteArray × Nat × Option FieldType
def yX0_init : MethodName := ⟨RX0, "<init>", "()V"⟩
def mX0_init : MI := (yX0_init, prog_2_method_1_code, 1, none)
def yX0_begin : MethodName := ⟨RX0, "begin", "(III)V"⟩
def mX0_begin : MI := (yX0_begin, prog_2_method_2_code, 4, none)
def yX0_copy : MethodName := ⟨RX0, "copy", "(LChaletRule$Beam;)V"⟩
def mX0_copy : MI := (yX0_copy, prog_2_method_3_code, 2, none)
def yX0_whoIsOut : MethodName := ⟨RX0, "whoIsOut", "()I"⟩
def mX0_whoIsOut : MI := (yX0_whoIsOut, prog_2_method_4_code, 2, (some .int))
def yX0_isOpen : MethodName := ⟨RX0, "isOpen", "(I)Z"⟩
def mX0_isOpen : MI := (yX0_isOpen, prog_2_method_5_code, 2, (some .boolean))
def yX0_openVent : MethodName := ⟨RX0, "openVent", "(I)V"⟩
def mX0_openVent : MI := (yX0_openVent, prog_2_method_6_code, 2, none)
def yX0_pullOfDamp : MethodName := ⟨RX0, "pullOfDamp", "(I)I"⟩
def mX0_pullOfDamp : MI := (yX0_pullOfDamp, prog_2_method_7_code, 1, (some .int))
def yX0_reach : MethodName := ⟨RX0, "reach", "(I)I"⟩
def mX0_reach : MI := (yX0_reach, prog_2_method_8_code, 3, (some .int))
def yX0_turned : MethodName := ⟨RX0, "turned", "(II)I"⟩
def mX0_turned : MI := (yX0_turned, prog_2_method_9_code, 5, (some .int))
def yX0_passDay : MethodName := ⟨RX0, "passDay", "(LChaletRule$Told;)V"⟩
def mX0_passDay : MI := (yX0_passDay, prog_2_method_10_code, 3, none)
def yX0_noteWeather : MethodName := ⟨RX0, "noteWeather", "()V"⟩
def mX0_noteWeather : MI := (yX0_noteWeather, prog_2_method_11_code, 1, none)
def yX0_had : MethodName := ⟨RX0, "had", "(II)Z"⟩
def mX0_had : MI := (yX0_had, prog_2_method_12_code, 4, (some .boolean))
def yX0_gust : MethodName := ⟨RX0, "gust", "()V"⟩
def mX0_gust : MI := (yX0_gust, prog_2_method_13_code, 1, none)
def yX1_most : MethodName := ⟨RX1, "most", "(LChaletRule$Told;II)I"⟩
def mX1_most : MI := (yX1_most, prog_3_method_2_code, 3, (some .int))
def yX1_leastSide : MethodName := ⟨RX1, "leastSide", "(LChaletRule$Told;II)I"⟩
def mX1_leastSide : MI := (yX1_leastSide, prog_3_method_3_code, 8, (some .int))
def yX1_acrossFrom : MethodName := ⟨RX1, "acrossFrom", "(LChaletRule$Told;III)I"⟩
def mX1_acrossFrom : MI := (yX1_acrossFrom, prog_3_method_4_code, 8, (some .int))
def yX1_narrowDitches : MethodName := ⟨RX1, "narrowDitches", "(LChaletRule$Told;)I"⟩
def mX1_narrowDitches : MI := (yX1_narrowDitches, prog_3_method_5_code, 4, (some .int))
def yX1_reachedFrom : MethodName := ⟨RX1, "reachedFrom", "(LChaletRule$Told;I)I"⟩
def mX1_reachedFrom : MI := (yX1_reachedFrom, prog_3_method_6_code, 5, (some .int))
def yX2_init : MethodName := ⟨RX2, "<init>", "()V"⟩
def mX2_init : MI := (yX2_init, prog_4_method_1_code, 1, none)
def yX2_behind : MethodName := ⟨RX2, "behind", "(LChaletRule$Told;LChaletRule$Beam;I)LChaletRule$Beam;"⟩
def mX2_behind : MI := (yX2_behind, prog_4_method_2_code, 5, (some (.object "ChaletRule$Beam")))
def yX2_keeps : MethodName := ⟨RX2, "keeps", "(LChaletRule$Told;LChaletRule$Beam;I)Z"⟩
def mX2_keeps : MI := (yX2_keeps, prog_4_method_3_code, 5, (some .boolean))
def yX2_daysWith : MethodName := ⟨RX2, "daysWith", "(LChaletRule$Told;LChaletRule$Beam;II)I"⟩
def mX2_daysWith : MI := (yX2_daysWith, prog_4_method_4_code, 7, (some .int))
def yX2_daysUntil : MethodName := ⟨RX2, "daysUntil", "(LChaletRule$Told;LChaletRule$Beam;I)I"⟩
def mX2_daysUntil : MI := (yX2_daysUntil, prog_4_method_5_code, 5, (some .int))
def yX2_goesRound : MethodName := ⟨RX2, "goesRound", "(LChaletRule$Told;LChaletRule$Beam;)I"⟩
def mX2_goesRound : MI := (yX2_goesRound, prog_4_method_6_code, 5, (some .int))
def yX3_init : MethodName := ⟨RX3, "<init>", "()V"⟩
def mX3_init : MI := (yX3_init, prog_5_method_1_code, 1, none)
def yX3_weigh : MethodName := ⟨RX3, "weigh", "(LChaletRule$Told;LChaletRule$Beam;II)V"⟩
def mX3_weigh : MI := (yX3_weigh, prog_5_method_2_code, 8, none)
def yX3_blow : MethodName := ⟨RX3, "blow", "(LChaletRule$Told;LChaletRule$Beam;II)J"⟩
def mX3_blow : MI := (yX3_blow, prog_5_method_3_code, 8, (some .long))
def yX3_shorten : MethodName := ⟨RX3, "shorten", "()V"⟩
def mX3_shorten : MI := (yX3_shorten, prog_5_method_4_code, 8, none)
def yX3_draw : MethodName := ⟨RX3, "draw", "(LChaletRule$Told;LChaletRule$Beam;II)V"⟩
def mX3_draw : MI := (yX3_draw, prog_5_method_5_code, 7, none)
def yX4_init : MethodName := ⟨RX4, "<init>", "()V"⟩
def mX4_init : MI := (yX4_init, prog_6_method_1_code, 1, none)
def yX4_forget : MethodName := ⟨RX4, "forget", "()V"⟩
def mX4_forget : MI := (yX4_forget, prog_6_method_2_code, 1, none)
def yX4_nameOf : MethodName := ⟨RX4, "nameOf", "(I)I"⟩
def mX4_nameOf : MI := (yX4_nameOf, prog_6_method_3_code, 2, (some .int))
def yX4_bitsOf : MethodName := ⟨RX4, "bitsOf", "(Z)I"⟩
def mX4_bitsOf : MI := (yX4_bitsOf, prog_6_method_4_code, 4, (some .int))
def yX4_onlyOne : MethodName := ⟨RX4, "onlyOne", "(Z)I"⟩
def mX4_onlyOne : MI := (yX4_onlyOne, prog_6_method_5_code, 4, (some .int))
def yX4_chooseDay : MethodName := ⟨RX4, "chooseDay", "(LChaletRule$Told;)V"⟩
def mX4_chooseDay : MI := (yX4_chooseDay, prog_6_method_6_code, 4, none)
def yX4_firstUnlike : MethodName := ⟨RX4, "firstUnlike", "(LChaletRule$Told;)I"⟩
def mX4_firstUnlike : MI := (yX4_firstUnlike, prog_6_method_7_code, 2, (some .int))
def yX4_gather : MethodName := ⟨RX4, "gather", "(LChaletRule$Told;)V"⟩
def mX4_gather : MI := (yX4_gather, prog_6_method_8_code, 3, none)
def yX4_watch : MethodName := ⟨RX4, "watch", "(LChaletRule$Told;II)V"⟩
def mX4_watch : MI := (yX4_watch, prog_6_method_9_code, 5, none)
def yX4_unlikeSeen : MethodName := ⟨RX4, "unlikeSeen", "(LChaletRule$Told;)I"⟩
def mX4_unlikeSeen : MI := (yX4_unlikeSeen, prog_6_method_10_code, 4, (some .int))
def yX4_countOuts : MethodName := ⟨RX4, "countOuts", "(LChaletRule$Told;)V"⟩
def mX4_countOuts : MI := (yX4_countOuts, prog_6_method_11_code, 5, none)
def yX4_mostOf : MethodName := ⟨RX4, "mostOf", "(I)I"⟩
def mX4_mostOf : MI := (yX4_mostOf, prog_6_method_12_code, 5, (some .int))
def yX5_init : MethodName := ⟨RX5, "<init>", "()V"⟩
def mX5_init : MI := (yX5_init, prog_7_method_1_code, 2, none)
def yX5_forget : MethodName := ⟨RX5, "forget", "()V"⟩
def mX5_forget : MI := (yX5_forget, prog_7_method_2_code, 1, none)
def yX5_keep : MethodName := ⟨RX5, "keep", "(LChaletRule$Beam;)V"⟩
def mX5_keep : MI := (yX5_keep, prog_7_method_3_code, 2, none)
def yX5_takeBack : MethodName := ⟨RX5, "takeBack", "(LChaletRule$Beam;)Z"⟩
def mX5_takeBack : MI := (yX5_takeBack, prog_7_method_4_code, 3, (some .boolean))
def yX5_paint : MethodName := ⟨RX5, "paint", "(LChaletRule$Beam;)I"⟩
def mX5_paint : MI := (yX5_paint, prog_7_method_5_code, 2, (some .int))
def yX5_recall : MethodName := ⟨RX5, "recall", "(ILChaletRule$Beam;)Z"⟩
def mX5_recall : MI := (yX5_recall, prog_7_method_6_code, 3, (some .boolean))
def yX6_init : MethodName := ⟨RX6, "<init>", "()V"⟩
def mX6_init : MI := (yX6_init, prog_8_method_1_code, 1, none)
def yX6_putBytes : MethodName := ⟨RX6, "putBytes", "(I)V"⟩
def mX6_putBytes : MI := (yX6_putBytes, prog_8_method_2_code, 3, none)
def yX6_begin : MethodName := ⟨RX6, "begin", "(I)V"⟩
def mX6_begin : MI := (yX6_begin, prog_8_method_3_code, 2, none)
def yX6_readLines : MethodName := ⟨RX6, "readLines", "()Z"⟩
def mX6_readLines : MI := (yX6_readLines, prog_8_method_4_code, 2, (some .boolean))
def yX6_readLine : MethodName := ⟨RX6, "readLine", "(Z)Z"⟩
def mX6_readLine : MI := (yX6_readLine, prog_8_method_5_code, 2, (some .boolean))
def yX6_readChalet : MethodName := ⟨RX6, "readChalet", "()Z"⟩
def mX6_readChalet : MI := (yX6_readChalet, prog_8_method_6_code, 1, (some .boolean))
def yX6_readWeather : MethodName := ⟨RX6, "readWeather", "()Z"⟩
def mX6_readWeather : MI := (yX6_readWeather, prog_8_method_7_code, 1, (some .boolean))
def yX6_readVent : MethodName := ⟨RX6, "readVent", "()Z"⟩
def mX6_readVent : MI := (yX6_readVent, prog_8_method_8_code, 1, (some .boolean))
def yX6_readPlan : MethodName := ⟨RX6, "readPlan", "()Z"⟩
def mX6_readPlan : MI := (yX6_readPlan, prog_8_method_9_code, 1, (some .boolean))
def yX6_readSaw : MethodName := ⟨RX6, "readSaw", "()Z"⟩
def mX6_readSaw : MI := (yX6_readSaw, prog_8_method_10_code, 1, (some .boolean))
def yX6_readField : MethodName := ⟨RX6, "readField", "()Z"⟩
def mX6_readField : MI := (yX6_readField, prog_8_method_11_code, 1, (some .boolean))
def yX6_readDitch : MethodName := ⟨RX6, "readDitch", "()Z"⟩
def mX6_readDitch : MI := (yX6_readDitch, prog_8_method_12_code, 2, (some .boolean))
def yX6_fails : MethodName := ⟨RX6, "fails", "(I)Z"⟩
def mX6_fails : MI := (yX6_fails, prog_8_method_13_code, 2, (some .boolean))
def yX6_wants : MethodName := ⟨RX6, "wants", "(Ljava/lang/String;)Z"⟩
def mX6_wants : MI := (yX6_wants, prog_8_method_14_code, 2, (some .boolean))
def yX6_wantsWhole : MethodName := ⟨RX6, "wantsWhole", "(II)Z"⟩
def mX6_wantsWhole : MI := (yX6_wantsWhole, prog_8_method_15_code, 3, (some .boolean))
def yX6_wantsCell : MethodName := ⟨RX6, "wantsCell", "(LChaletRule$Table;III)Z"⟩
def mX6_wantsCell : MI := (yX6_wantsCell, prog_8_method_16_code, 5, (some .boolean))
def yX6_closes : MethodName := ⟨RX6, "closes", "(LChaletRule$Table;)Z"⟩
def mX6_closes : MI := (yX6_closes, prog_8_method_17_code, 2, (some .boolean))
def yX6_wantsWeather : MethodName := ⟨RX6, "wantsWeather", "(LChaletRule$Table;I)Z"⟩
def mX6_wantsWeather : MI := (yX6_wantsWeather, prog_8_method_18_code, 3, (some .boolean))
def yX6_wantsWho : MethodName := ⟨RX6, "wantsWho", "()Z"⟩
def mX6_wantsWho : MI := (yX6_wantsWho, prog_8_method_19_code, 2, (some .boolean))
def yX6_wantsNewName : MethodName := ⟨RX6, "wantsNewName", "(I)Z"⟩
def mX6_wantsNewName : MI := (yX6_wantsNewName, prog_8_method_20_code, 2, (some .boolean))
def yX6_wantsField : MethodName := ⟨RX6, "wantsField", "()Z"⟩
def mX6_wantsField : MI := (yX6_wantsField, prog_8_method_21_code, 2, (some .boolean))
def yX6_nameNumber : MethodName := ⟨RX6, "nameNumber", "()I"⟩
def mX6_nameNumber : MI := (yX6_nameNumber, prog_8_method_22_code, 2, (some .int))
def yX6_beginsLine : MethodName := ⟨RX6, "beginsLine", "()Z"⟩
def mX6_beginsLine : MI := (yX6_beginsLine, prog_8_method_23_code, 1, (some .boolean))
def yX6_isWord : MethodName := ⟨RX6, "isWord", "(Ljava/lang/String;)Z"⟩
def mX6_isWord : MI := (yX6_isWord, prog_8_method_24_code, 5, (some .boolean))
def yX6_nextToken : MethodName := ⟨RX6, "nextToken", "()V"⟩
def mX6_nextToken : MI := (yX6_nextToken, prog_8_method_25_code, 1, none)
def yX6_takeWord : MethodName := ⟨RX6, "takeWord", "()V"⟩
def mX6_takeWord : MI := (yX6_takeWord, prog_8_method_26_code, 2, none)
def yX6_takeWhole : MethodName := ⟨RX6, "takeWhole", "()V"⟩
def mX6_takeWhole : MI := (yX6_takeWhole, prog_8_method_27_code, 1, none)
def yX7_init : MethodName := ⟨RX7, "<init>", "(II)V"⟩
def mX7_init : MI := (yX7_init, prog_9_method_1_code, 3, none)
def yX7_isFull : MethodName := ⟨RX7, "isFull", "()Z"⟩
def mX7_isFull : MI := (yX7_isFull, prog_9_method_2_code, 1, (some .boolean))
def yX7_holds : MethodName := ⟨RX7, "holds", "(I)Z"⟩
def mX7_holds : MI := (yX7_holds, prog_9_method_3_code, 2, (some .boolean))
def yX7_cell : MethodName := ⟨RX7, "cell", "(II)I"⟩
def mX7_cell : MI := (yX7_cell, prog_9_method_4_code, 5, (some .int))
def yX7_put : MethodName := ⟨RX7, "put", "(II)V"⟩
def mX7_put : MI := (yX7_put, prog_9_method_5_code, 4, none)
def yX7_closeRow : MethodName := ⟨RX7, "closeRow", "()V"⟩
def mX7_closeRow : MI := (yX7_closeRow, prog_9_method_6_code, 1, none)
def yX8_init : MethodName := ⟨RX8, "<init>", "()V"⟩
def mX8_init : MI := (yX8_init, prog_10_method_1_code, 1, none)
def yX8_clear : MethodName := ⟨RX8, "clear", "()V"⟩
def mX8_clear : MI := (yX8_clear, prog_10_method_2_code, 1, none)
def yX8_pullOfVents : MethodName := ⟨RX8, "pullOfVents", "(I)I"⟩
def mX8_pullOfVents : MI := (yX8_pullOfVents, prog_10_method_3_code, 5, (some .int))
def yX8_isKept : MethodName := ⟨RX8, "isKept", "(ILChaletRule$Beam;)Z"⟩
def mX8_isKept : MI := (yX8_isKept, prog_10_method_4_code, 3, (some .boolean))
def yX8_worthKept : MethodName := ⟨RX8, "worthKept", "(LChaletRule$Beam;I)I"⟩
def mX8_worthKept : MI := (yX8_worthKept, prog_10_method_5_code, 5, (some .int))
def yX8_keptAll : MethodName := ⟨RX8, "keptAll", "(LChaletRule$Beam;I)Z"⟩
def mX8_keptAll : MI := (yX8_keptAll, prog_10_method_6_code, 5, (some .boolean))
def yX8_hasDitch : MethodName := ⟨RX8, "hasDitch", "(II)Z"⟩
def mX8_hasDitch : MI := (yX8_hasDitch, prog_10_method_7_code, 4, (some .boolean))
def yX8_sawOn : MethodName := ⟨RX8, "sawOn", "(I)Z"⟩
def mX8_sawOn : MI := (yX8_sawOn, prog_10_method_8_code, 3, (some .boolean))
def yX9_init : MethodName := ⟨RX9, "<init>", "()V"⟩
def mX9_init : MI := (yX9_init, prog_11_method_1_code, 2, none)
def yX9_take : MethodName := ⟨RX9, "take", "(III)Z"⟩
def mX9_take : MI := (yX9_take, prog_11_method_2_code, 6, (some .boolean))
def yX9_worth : MethodName := ⟨RX9, "worth", "(LChaletRule$Told;LChaletRule$Beam;I)I"⟩
def mX9_worth : MI := (yX9_worth, prog_11_method_3_code, 4, (some .int))
def yX9_search : MethodName := ⟨RX9, "search", "(LChaletRule$Told;LChaletRule$Beam;II)V"⟩
def mX9_search : MI := (yX9_search, prog_11_method_4_code, 9, none)
def yX9_follow : MethodName := ⟨RX9, "follow", "(LChaletRule$Told;II)V"⟩
def mX9_follow : MI := (yX9_follow, prog_11_method_5_code, 5, none)
def yX9_passTurn : MethodName := ⟨RX9, "passTurn", "(LChaletRule$Told;II)V"⟩
def mX9_passTurn : MI := (yX9_passTurn, prog_11_method_6_code, 5, none)
def yX9_scoreOf : MethodName := ⟨RX9, "scoreOf", "(LChaletRule$Told;LChaletRule$Beam;II)I"⟩
def mX9_scoreOf : MI := (yX9_scoreOf, prog_11_method_7_code, 6, (some .int))
def yX9_opened : MethodName := ⟨RX9, "opened", "(I)I"⟩
def mX9_opened : MI := (yX9_opened, prog_11_method_8_code, 4, (some .int))
def yX9_digits : MethodName := ⟨RX9, "digits", "(I)I"⟩
def mX9_digits : MI := (yX9_digits, prog_11_method_9_code, 4, (some .int))
def yX9_rowsOf : MethodName := ⟨RX9, "rowsOf", "(II)I"⟩
def mX9_rowsOf : MI := (yX9_rowsOf, prog_11_method_10_code, 4, (some .int))
def yX9_nextRow : MethodName := ⟨RX9, "nextRow", "(II)I"⟩
def mX9_nextRow : MI := (yX9_nextRow, prog_11_method_11_code, 4, (some .int))
def yX9_played : MethodName := ⟨RX9, "played", "(LChaletRule$Told;LChaletRule$Beam;I)I"⟩
def mX9_played : MI := (yX9_played, prog_11_method_12_code, 4, (some .int))
def yX9_bestFrom : MethodName := ⟨RX9, "bestFrom", "(LChaletRule$VentRows;LChaletRule$Told;II)I"⟩
def mX9_bestFrom : MI := (yX9_bestFrom, prog_11_method_13_code, 8, (some .int))
def yX9_firstOpened : MethodName := ⟨RX9, "firstOpened", "(LChaletRule$Told;LChaletRule$Beam;I)I"⟩
def mX9_firstOpened : MI := (yX9_firstOpened, prog_11_method_14_code, 8, (some .int))
def yX10_init : MethodName := ⟨RX10, "<init>", "()V"⟩
def mX10_init : MI := (yX10_init, prog_1_method_1_code, 1, none)
def yX10_feed : MethodName := ⟨RX10, "feed", "(IIIII)I"⟩
def mX10_feed : MI := (yX10_feed, prog_1_method_2_code, 6, (some .int))
def yX10_chalet : MethodName := ⟨RX10, "chalet", "(I)I"⟩
def mX10_chalet : MI := (yX10_chalet, prog_1_method_3_code, 3, (some .int))
def yX10_fault : MethodName := ⟨RX10, "fault", "()I"⟩
def mX10_fault : MI := (yX10_fault, prog_1_method_4_code, 1, (some .int))
def yX10_where : MethodName := ⟨RX10, "where", "()I"⟩
def mX10_where : MI := (yX10_where, prog_1_method_5_code, 1, (some .int))
def yX10_beam : MethodName := ⟨RX10, "beam", "(I)I"⟩
def mX10_beam : MI := (yX10_beam, prog_1_method_6_code, 2, (some .int))
def yX10_vent : MethodName := ⟨RX10, "vent", "(II)I"⟩
def mX10_vent : MI := (yX10_vent, prog_1_method_7_code, 3, (some .int))
def yX10_plan : MethodName := ⟨RX10, "plan", "(II)I"⟩
def mX10_plan : MI := (yX10_plan, prog_1_method_8_code, 3, (some .int))
def yX10_goes : MethodName := ⟨RX10, "goes", "(I)I"⟩
def mX10_goes : MI := (yX10_goes, prog_1_method_9_code, 2, (some .int))
def yX10_stays : MethodName := ⟨RX10, "stays", "()I"⟩
def mX10_stays : MI := (yX10_stays, prog_1_method_10_code, 4, (some .int))
def yX10_angleIn : MethodName := ⟨RX10, "angleIn", "(I)I"⟩
def mX10_angleIn : MI := (yX10_angleIn, prog_1_method_11_code, 2, (some .int))
def yX10_dampIn : MethodName := ⟨RX10, "dampIn", "(I)I"⟩
def mX10_dampIn : MI := (yX10_dampIn, prog_1_method_12_code, 2, (some .int))
def yX10_whoIn : MethodName := ⟨RX10, "whoIn", "(I)I"⟩
def mX10_whoIn : MI := (yX10_whoIn, prog_1_method_13_code, 2, (some .int))
def yX10_daysOf : MethodName := ⟨RX10, "daysOf", "(II)I"⟩
def mX10_daysOf : MI := (yX10_daysOf, prog_1_method_14_code, 4, (some .int))
def yX10_when : MethodName := ⟨RX10, "when", "(I)I"⟩
def mX10_when : MI := (yX10_when, prog_1_method_15_code, 2, (some .int))
def yX10_round : MethodName := ⟨RX10, "round", "()I"⟩
def mX10_round : MI := (yX10_round, prog_1_method_16_code, 1, (some .int))
def yX10_kept : MethodName := ⟨RX10, "kept", "(I)I"⟩
def mX10_kept : MI := (yX10_kept, prog_1_method_17_code, 2, (some .int))
def yX10_worthOf : MethodName := ⟨RX10, "worthOf", "(II)I"⟩
def mX10_worthOf : MI := (yX10_worthOf, prog_1_method_18_code, 4, (some .int))
def yX10_bestRow : MethodName := ⟨RX10, "bestRow", "(I)I"⟩
def mX10_bestRow : MI := (yX10_bestRow, prog_1_method_19_code, 2, (some .int))
def yX10_bestWorth : MethodName := ⟨RX10, "bestWorth", "(I)I"⟩
def mX10_bestWorth : MI := (yX10_bestWorth, prog_1_method_20_code, 2, (some .int))
def yX10_sureRow : MethodName := ⟨RX10, "sureRow", "(I)I"⟩
def mX10_sureRow : MI := (yX10_sureRow, prog_1_method_21_code, 2, (some .int))
def yX10_sureCoins : MethodName := ⟨RX10, "sureCoins", "(I)I"⟩
def mX10_sureCoins : MI := (yX10_sureCoins, prog_1_method_22_code, 2, (some .int))
def yX10_rowFor : MethodName := ⟨RX10, "rowFor", "(II)I"⟩
def mX10_rowFor : MI := (yX10_rowFor, prog_1_method_23_code, 3, (some .int))
def yX10_makes : MethodName := ⟨RX10, "makes", "()I"⟩
def mX10_makes : MI := (yX10_makes, prog_1_method_24_code, 1, (some .int))
def yX10_makeAt : MethodName := ⟨RX10, "makeAt", "(I)I"⟩
def mX10_makeAt : MI := (yX10_makeAt, prog_1_method_25_code, 2, (some .int))
def yX10_could : MethodName := ⟨RX10, "could", "(Z)I"⟩
def mX10_could : MI := (yX10_could, prog_1_method_26_code, 2, (some .int))
def yX10_surely : MethodName := ⟨RX10, "surely", "(Z)I"⟩
def mX10_surely : MI := (yX10_surely, prog_1_method_27_code, 2, (some .int))
def yX10_look : MethodName := ⟨RX10, "look", "()I"⟩
def mX10_look : MI := (yX10_look, prog_1_method_28_code, 1, (some .int))
def yX10_lookLeaves : MethodName := ⟨RX10, "lookLeaves", "()I"⟩
def mX10_lookLeaves : MI := (yX10_lookLeaves, prog_1_method_29_code, 1, (some .int))
def yX10_judge : MethodName := ⟨RX10, "judge", "()I"⟩
def mX10_judge : MI := (yX10_judge, prog_1_method_30_code, 1, (some .int))
def yX10_value : MethodName := ⟨RX10, "value", "(I)I"⟩
def mX10_value : MI := (yX10_value, prog_1_method_31_code, 2, (some .int))
def yX10_opens : MethodName := ⟨RX10, "opens", "(I)I"⟩
def mX10_opens : MI := (yX10_opens, prog_1_method_32_code, 2, (some .int))
def yX10_flood : MethodName := ⟨RX10, "flood", "()I"⟩
def mX10_flood : MI := (yX10_flood, prog_1_method_33_code, 1, (some .int))
def yX10_cut : MethodName := ⟨RX10, "cut", "()I"⟩
def mX10_cut : MI := (yX10_cut, prog_1_method_34_code, 1, (some .int))
def yX10_floodIf : MethodName := ⟨RX10, "floodIf", "(II)I"⟩
def mX10_floodIf : MI := (yX10_floodIf, prog_1_method_35_code, 3, (some .int))
def yX10_narrow : MethodName := ⟨RX10, "narrow", "()I"⟩
def mX10_narrow : MI := (yX10_narrow, prog_1_method_36_code, 1, (some .int))
def yX10_downhill : MethodName := ⟨RX10, "downhill", "(I)I"⟩
def mX10_downhill : MI := (yX10_downhill, prog_1_method_37_code, 2, (some .int))
def yX10_likely : MethodName := ⟨RX10, "likely", "(IIZ)J"⟩
def mX10_likely : MI := (yX10_likely, prog_1_method_38_code, 4, (some .long))
def yX10_mean : MethodName := ⟨RX10, "mean", "(IZ)J"⟩
def mX10_mean : MI := (yX10_mean, prog_1_method_39_code, 3, (some .long))
def yX10_gusted : MethodName := ⟨RX10, "gusted", "(II)I"⟩
def mX10_gusted : MI := (yX10_gusted, prog_1_method_40_code, 3, (some .int))
def yX10_wetIn : MethodName := ⟨RX10, "wetIn", "(II)I"⟩
def mX10_wetIn : MI := (yX10_wetIn, prog_1_method_41_code, 3, (some .int))
def yX10_open : MethodName := ⟨RX10, "open", "(I)Z"⟩
def mX10_open : MI := (yX10_open, prog_1_method_42_code, 2, (some .boolean))
def yX10_oil : MethodName := ⟨RX10, "oil", "()I"⟩
def mX10_oil : MI := (yX10_oil, prog_1_method_43_code, 1, (some .int))
def yX10_day : MethodName := ⟨RX10, "day", "()I"⟩
def mX10_day : MI := (yX10_day, prog_1_method_44_code, 1, (some .int))
def yX10_undo : MethodName := ⟨RX10, "undo", "()Z"⟩
def mX10_undo : MI := (yX10_undo, prog_1_method_45_code, 2, (some .boolean))
def yX10_image : MethodName := ⟨RX10, "image", "()I"⟩
def mX10_image : MI := (yX10_image, prog_1_method_46_code, 2, (some .int))
def yX10_back : MethodName := ⟨RX10, "back", "(I)Z"⟩
def mX10_back : MI := (yX10_back, prog_1_method_47_code, 2, (some .boolean))
def yX10_led : MethodName := ⟨RX10, "led", "(I)I"⟩
def mX10_led : MI := (yX10_led, prog_1_method_48_code, 4, (some .int))
def yX10_size : MethodName := ⟨RX10, "size", "(I)I"⟩
def mX10_size : MI := (yX10_size, prog_1_method_49_code, 2, (some .int))
def yX10_trouble : MethodName := ⟨RX10, "trouble", "()I"⟩
def mX10_trouble : MI := (yX10_trouble, prog_1_method_50_code, 1, (some .int))
def yX10_within : MethodName := ⟨RX10, "within", "(III)Z"⟩
def mX10_within : MI := (yX10_within, prog_1_method_51_code, 3, (some .boolean))
def yX10_refuse : MethodName := ⟨RX10, "refuse", "(I)I"⟩
def mX10_refuse : MI := (yX10_refuse, prog_1_method_52_code, 2, (some .int))
def yX10_refused : MethodName := ⟨RX10, "refused", "(Z)Z"⟩
def mX10_refused : MI := (yX10_refused, prog_1_method_53_code, 2, (some .boolean))
def yX10_lacks : MethodName := ⟨RX10, "lacks", "(Z)Z"⟩
def mX10_lacks : MI := (yX10_lacks, prog_1_method_54_code, 2, (some .boolean))
def yX10_gathered : MethodName := ⟨RX10, "gathered", "()LChaletRule$Makes;"⟩
def mX10_gathered : MI := (yX10_gathered, prog_1_method_55_code, 1, (some (.object "ChaletRule$Makes")))
def yX10_takeDraft : MethodName := ⟨RX10, "takeDraft", "()V"⟩
def mX10_takeDraft : MI := (yX10_takeDraft, prog_1_method_56_code, 2, none)
def yX11_init : MethodName := ⟨RX11, "<init>", "()V"⟩
def mX11_init : MI := (yX11_init, prog_13_method_1_code, 1, none)
def yX11_thrown : MethodName := ⟨RX11, "thrown", "()I"⟩
def mX11_thrown : MI := (yX11_thrown, prog_13_method_2_code, 1, (some .int))
def yX11_good : MethodName := ⟨RX11, "good", "()V"⟩
def mX11_good : MI := (yX11_good, prog_13_method_3_code, 1, none)
def yX11_no : MethodName := ⟨RX11, "no", "(I)I"⟩
def mX11_no : MI := (yX11_no, prog_13_method_4_code, 2, (some .int))
def yX11_isNot : MethodName := ⟨RX11, "isNot", "(I)Z"⟩
def mX11_isNot : MI := (yX11_isNot, prog_13_method_5_code, 2, (some .boolean))
def yX11_in : MethodName := ⟨RX11, "in", "(III)Z"⟩
def mX11_in : MI := (yX11_in, prog_13_method_6_code, 3, (some .boolean))
def yX11_hasBit : MethodName := ⟨RX11, "hasBit", "(II)Z"⟩
def mX11_hasBit : MI := (yX11_hasBit, prog_13_method_7_code, 2, (some .boolean))
def yX11_copy : MethodName := ⟨RX11, "copy", "([II[III)V"⟩
def mX11_copy : MI := (yX11_copy, prog_13_method_9_code, 6, none)
def yX11_lowest : MethodName := ⟨RX11, "lowest", "(JJZ)J"⟩
def mX11_lowest : MI := (yX11_lowest, prog_13_method_10_code, 11, (some .long))
def yX11_feed : MethodName := ⟨RX11, "feed", "(IIIII)I"⟩
def mX11_feed : MI := (yX11_feed, prog_13_method_11_code, 8, (some .int))
def yX11_see : MethodName := ⟨RX11, "see", "(I)I"⟩
def mX11_see : MI := (yX11_see, prog_13_method_12_code, 2, (some .int))
def yX11_isSmall : MethodName := ⟨RX11, "isSmall", "(I)Z"⟩
def mX11_isSmall : MI := (yX11_isSmall, prog_13_method_13_code, 1, (some .boolean))
def yX11_isDigit : MethodName := ⟨RX11, "isDigit", "(I)Z"⟩
def mX11_isDigit : MI := (yX11_isDigit, prog_13_method_14_code, 1, (some .boolean))
def yX11_next : MethodName := ⟨RX11, "next", "()V"⟩
def mX11_next : MI := (yX11_next, prog_13_method_15_code, 4, none)
def yX11_wrong : MethodName := ⟨RX11, "wrong", "(II)V"⟩
def mX11_wrong : MI := (yX11_wrong, prog_13_method_16_code, 3, none)
def yX11_isWord : MethodName := ⟨RX11, "isWord", "(Ljava/lang/String;)Z"⟩
def mX11_isWord : MI := (yX11_isWord, prog_13_method_17_code, 4, (some .boolean))
def yX11_takesWord : MethodName := ⟨RX11, "takesWord", "(Ljava/lang/String;)Z"⟩
def mX11_takesWord : MI := (yX11_takesWord, prog_13_method_18_code, 2, (some .boolean))
def yX11_must : MethodName := ⟨RX11, "must", "(Ljava/lang/String;)V"⟩
def mX11_must : MI := (yX11_must, prog_13_method_19_code, 2, none)
def yX11_mustName : MethodName := ⟨RX11, "mustName", "()V"⟩
def mX11_mustName : MI := (yX11_mustName, prog_13_method_20_code, 1, none)
def yX11_find : MethodName := ⟨RX11, "find", "()I"⟩
def mX11_find : MI := (yX11_find, prog_13_method_21_code, 4, (some .int))
def yX11_newName : MethodName := ⟨RX11, "newName", "(I)V"⟩
def mX11_newName : MI := (yX11_newName, prog_13_method_22_code, 3, none)
def yX11_fieldHere : MethodName := ⟨RX11, "fieldHere", "()I"⟩
def mX11_fieldHere : MI := (yX11_fieldHere, prog_13_method_23_code, 2, (some .int))
def yX11_numberHere : MethodName := ⟨RX11, "numberHere", "(II)I"⟩
def mX11_numberHere : MI := (yX11_numberHere, prog_13_method_24_code, 3, (some .int))
def yX11_number : MethodName := ⟨RX11, "number", "(II)I"⟩
def mX11_number : MI := (yX11_number, prog_13_method_25_code, 4, (some .int))
def yX11_after : MethodName := ⟨RX11, "after", "(Ljava/lang/String;II)I"⟩
def mX11_after : MI := (yX11_after, prog_13_method_26_code, 4, (some .int))
def yX11_weather : MethodName := ⟨RX11, "weather", "()I"⟩
def mX11_weather : MI := (yX11_weather, prog_13_method_27_code, 1, (some .int))
def yX11_chalet : MethodName := ⟨RX11, "chalet", "(I)I"⟩
def mX11_chalet : MI := (yX11_chalet, prog_13_method_28_code, 3, (some .int))
def yX11_begins : MethodName := ⟨RX11, "begins", "([II)V"⟩
def mX11_begins : MI := (yX11_begins, prog_13_method_29_code, 4, none)
def yX11_isLine : MethodName := ⟨RX11, "isLine", "(Ljava/lang/String;Z)Z"⟩
def mX11_isLine : MI := (yX11_isLine, prog_13_method_30_code, 3, (some .boolean))
def yX11_readLine : MethodName := ⟨RX11, "readLine", "()V"⟩
def mX11_readLine : MI := (yX11_readLine, prog_13_method_31_code, 1, none)
def yX11_chaletLine : MethodName := ⟨RX11, "chaletLine", "()V"⟩
def mX11_chaletLine : MI := (yX11_chaletLine, prog_13_method_32_code, 1, none)
def yX11_weatherLine : MethodName := ⟨RX11, "weatherLine", "()V"⟩
def mX11_weatherLine : MI := (yX11_weatherLine, prog_13_method_33_code, 1, none)
def yX11_ventLine : MethodName := ⟨RX11, "ventLine", "()V"⟩
def mX11_ventLine : MI := (yX11_ventLine, prog_13_method_34_code, 2, none)
def yX11_planLine : MethodName := ⟨RX11, "planLine", "()V"⟩
def mX11_planLine : MI := (yX11_planLine, prog_13_method_35_code, 2, none)
def yX11_sawLine : MethodName := ⟨RX11, "sawLine", "()V"⟩
def mX11_sawLine : MI := (yX11_sawLine, prog_13_method_36_code, 4, none)
def yX11_fieldLine : MethodName := ⟨RX11, "fieldLine", "()V"⟩
def mX11_fieldLine : MI := (yX11_fieldLine, prog_13_method_37_code, 1, none)
def yX11_ditchLine : MethodName := ⟨RX11, "ditchLine", "()V"⟩
def mX11_ditchLine : MI := (yX11_ditchLine, prog_13_method_38_code, 6, none)
def yX11_fault : MethodName := ⟨RX11, "fault", "()I"⟩
def mX11_fault : MI := (yX11_fault, prog_13_method_39_code, 1, (some .int))
def yX11_where : MethodName := ⟨RX11, "where", "()I"⟩
def mX11_where : MI := (yX11_where, prog_13_method_40_code, 1, (some .int))
def yX11_whoOf : MethodName := ⟨RX11, "whoOf", "([I)I"⟩
def mX11_whoOf : MI := (yX11_whoOf, prog_13_method_41_code, 2, (some .int))
def yX11_towards : MethodName := ⟨RX11, "towards", "(I)I"⟩
def mX11_towards : MI := (yX11_towards, prog_13_method_42_code, 1, (some .int))
def yX11_bound : MethodName := ⟨RX11, "bound", "(I)I"⟩
def mX11_bound : MI := (yX11_bound, prog_13_method_43_code, 1, (some .int))
def yX11_stepOf : MethodName := ⟨RX11, "stepOf", "(III)I"⟩
def mX11_stepOf : MI := (yX11_stepOf, prog_13_method_44_code, 4, (some .int))
def yX11_nearer : MethodName := ⟨RX11, "nearer", "(III)I"⟩
def mX11_nearer : MI := (yX11_nearer, prog_13_method_45_code, 4, (some .int))
def yX11_pullOf : MethodName := ⟨RX11, "pullOf", "([I)I"⟩
def mX11_pullOf : MI := (yX11_pullOf, prog_13_method_46_code, 4, (some .int))
def yX11_dayBy : MethodName := ⟨RX11, "dayBy", "([II)V"⟩
def mX11_dayBy : MI := (yX11_dayBy, prog_13_method_47_code, 6, none)
def yX11_dayOf : MethodName := ⟨RX11, "dayOf", "([I)V"⟩
def mX11_dayOf : MI := (yX11_dayOf, prog_13_method_48_code, 2, none)
def yX11_begin : MethodName := ⟨RX11, "begin", "()V"⟩
def mX11_begin : MI := (yX11_begin, prog_13_method_49_code, 1, none)
def yX11_goOver : MethodName := ⟨RX11, "goOver", "(I)V"⟩
def mX11_goOver : MI := (yX11_goOver, prog_13_method_50_code, 3, none)
def yX11_worthsOf : MethodName := ⟨RX11, "worthsOf", "([III)I"⟩
def mX11_worthsOf : MI := (yX11_worthsOf, prog_13_method_51_code, 6, (some .int))
def yX11_beam : MethodName := ⟨RX11, "beam", "(I)I"⟩
def mX11_beam : MI := (yX11_beam, prog_13_method_52_code, 2, (some .int))
def yX11_isVent : MethodName := ⟨RX11, "isVent", "(I)Z"⟩
def mX11_isVent : MI := (yX11_isVent, prog_13_method_53_code, 2, (some .boolean))
def yX11_vent : MethodName := ⟨RX11, "vent", "(II)I"⟩
def mX11_vent : MI := (yX11_vent, prog_13_method_54_code, 3, (some .int))
def yX11_plan : MethodName := ⟨RX11, "plan", "(II)I"⟩
def mX11_plan : MI := (yX11_plan, prog_13_method_55_code, 3, (some .int))
def yX11_why : MethodName := ⟨RX11, "why", "(III)I"⟩
def mX11_why : MI := (yX11_why, prog_13_method_56_code, 4, (some .int))
def yX11_goes : MethodName := ⟨RX11, "goes", "(I)I"⟩
def mX11_goes : MI := (yX11_goes, prog_13_method_57_code, 3, (some .int))
def yX11_stays : MethodName := ⟨RX11, "stays", "()I"⟩
def mX11_stays : MI := (yX11_stays, prog_13_method_58_code, 4, (some .int))
def yX11_angleIn : MethodName := ⟨RX11, "angleIn", "(I)I"⟩
def mX11_angleIn : MI := (yX11_angleIn, prog_13_method_59_code, 3, (some .int))
def yX11_dampIn : MethodName := ⟨RX11, "dampIn", "(I)I"⟩
def mX11_dampIn : MI := (yX11_dampIn, prog_13_method_60_code, 3, (some .int))
def yX11_whoIn : MethodName := ⟨RX11, "whoIn", "(I)I"⟩
def mX11_whoIn : MI := (yX11_whoIn, prog_13_method_61_code, 3, (some .int))
def yX11_daysOf : MethodName := ⟨RX11, "daysOf", "(II)I"⟩
def mX11_daysOf : MI := (yX11_daysOf, prog_13_method_62_code, 5, (some .int))
def yX11_when : MethodName := ⟨RX11, "when", "(I)I"⟩
def mX11_when : MI := (yX11_when, prog_13_method_63_code, 4, (some .int))
def yX11_round : MethodName := ⟨RX11, "round", "()I"⟩
def mX11_round : MI := (yX11_round, prog_13_method_64_code, 3, (some .int))
def yX11_kept : MethodName := ⟨RX11, "kept", "(I)I"⟩
def mX11_kept : MI := (yX11_kept, prog_13_method_65_code, 3, (some .int))
def yX11_goBy : MethodName := ⟨RX11, "goBy", "(II)V"⟩
def mX11_goBy : MI := (yX11_goBy, prog_13_method_66_code, 6, none)
def yX11_worthBy : MethodName := ⟨RX11, "worthBy", "(II)I"⟩
def mX11_worthBy : MI := (yX11_worthBy, prog_13_method_67_code, 3, (some .int))
def yX11_isRowOf : MethodName := ⟨RX11, "isRowOf", "(II)Z"⟩
def mX11_isRowOf : MI := (yX11_isRowOf, prog_13_method_68_code, 6, (some .boolean))
def yX11_worthOf : MethodName := ⟨RX11, "worthOf", "(II)I"⟩
def mX11_worthOf : MI := (yX11_worthOf, prog_13_method_69_code, 3, (some .int))
def yX11_rowsFor : MethodName := ⟨RX11, "rowsFor", "(I)I"⟩
def mX11_rowsFor : MI := (yX11_rowsFor, prog_13_method_70_code, 3, (some .int))
def yX11_bestOf : MethodName := ⟨RX11, "bestOf", "(I)I"⟩
def mX11_bestOf : MI := (yX11_bestOf, prog_13_method_71_code, 6, (some .int))
def yX11_bestRow : MethodName := ⟨RX11, "bestRow", "(I)I"⟩
def mX11_bestRow : MI := (yX11_bestRow, prog_13_method_72_code, 3, (some .int))
def yX11_bestWorth : MethodName := ⟨RX11, "bestWorth", "(I)I"⟩
def mX11_bestWorth : MI := (yX11_bestWorth, prog_13_method_73_code, 3, (some .int))
def yX11_areAllKept : MethodName := ⟨RX11, "areAllKept", "(II)Z"⟩
def mX11_areAllKept : MI := (yX11_areAllKept, prog_13_method_74_code, 5, (some .boolean))
def yX11_sureOf : MethodName := ⟨RX11, "sureOf", "(I)I"⟩
def mX11_sureOf : MI := (yX11_sureOf, prog_13_method_75_code, 4, (some .int))
def yX11_sureRow : MethodName := ⟨RX11, "sureRow", "(I)I"⟩
def mX11_sureRow : MI := (yX11_sureRow, prog_13_method_76_code, 3, (some .int))
def yX11_sureCoins : MethodName := ⟨RX11, "sureCoins", "(I)I"⟩
def mX11_sureCoins : MI := (yX11_sureCoins, prog_13_method_77_code, 3, (some .int))
def yX11_ventsIn : MethodName := ⟨RX11, "ventsIn", "(I)I"⟩
def mX11_ventsIn : MI := (yX11_ventsIn, prog_13_method_78_code, 3, (some .int))
def yX11_rowFor : MethodName := ⟨RX11, "rowFor", "(II)I"⟩
def mX11_rowFor : MI := (yX11_rowFor, prog_13_method_79_code, 5, (some .int))
def yX11_layOuts : MethodName := ⟨RX11, "layOuts", "(I)V"⟩
def mX11_layOuts : MI := (yX11_layOuts, prog_13_method_80_code, 3, none)
def yX11_wrongSeen : MethodName := ⟨RX11, "wrongSeen", "()I"⟩
def mX11_wrongSeen : MI := (yX11_wrongSeen, prog_13_method_81_code, 2, (some .int))
def yX11_seekMakes : MethodName := ⟨RX11, "seekMakes", "(I)I"⟩
def mX11_seekMakes : MI := (yX11_seekMakes, prog_13_method_82_code, 5, (some .int))
def yX11_makes : MethodName := ⟨RX11, "makes", "()I"⟩
def mX11_makes : MI := (yX11_makes, prog_13_method_83_code, 1, (some .int))
def yX11_makeAt : MethodName := ⟨RX11, "makeAt", "(I)I"⟩
def mX11_makeAt : MI := (yX11_makeAt, prog_13_method_84_code, 3, (some .int))
def yX11_could : MethodName := ⟨RX11, "could", "(Z)I"⟩
def mX11_could : MI := (yX11_could, prog_13_method_85_code, 2, (some .int))
def yX11_surely : MethodName := ⟨RX11, "surely", "(Z)I"⟩
def mX11_surely : MI := (yX11_surely, prog_13_method_86_code, 3, (some .int))
def yX11_lookOf : MethodName := ⟨RX11, "lookOf", "()I"⟩
def mX11_lookOf : MI := (yX11_lookOf, prog_13_method_87_code, 5, (some .int))
def yX11_look : MethodName := ⟨RX11, "look", "()I"⟩
def mX11_look : MI := (yX11_look, prog_13_method_88_code, 1, (some .int))
def yX11_lookLeaves : MethodName := ⟨RX11, "lookLeaves", "()I"⟩
def mX11_lookLeaves : MI := (yX11_lookLeaves, prog_13_method_89_code, 1, (some .int))
def yX11_judge : MethodName := ⟨RX11, "judge", "()I"⟩
def mX11_judge : MI := (yX11_judge, prog_13_method_90_code, 1, (some .int))
def yX11_layLevel : MethodName := ⟨RX11, "layLevel", "(II)V"⟩
def mX11_layLevel : MI := (yX11_layLevel, prog_13_method_91_code, 3, none)
def yX11_valueFrom : MethodName := ⟨RX11, "valueFrom", "(II)I"⟩
def mX11_valueFrom : MI := (yX11_valueFrom, prog_13_method_92_code, 6, (some .int))
def yX11_value : MethodName := ⟨RX11, "value", "(I)I"⟩
def mX11_value : MI := (yX11_value, prog_13_method_93_code, 3, (some .int))
def yX11_opens : MethodName := ⟨RX11, "opens", "(I)I"⟩
def mX11_opens : MI := (yX11_opens, prog_13_method_94_code, 7, (some .int))
def yX11_carriesOf : MethodName := ⟨RX11, "carriesOf", "(I)I"⟩
def mX11_carriesOf : MI := (yX11_carriesOf, prog_13_method_95_code, 2, (some .int))
def yX11_acrossOf : MethodName := ⟨RX11, "acrossOf", "(I)I"⟩
def mX11_acrossOf : MI := (yX11_acrossOf, prog_13_method_96_code, 4, (some .int))
def yX11_cutOf : MethodName := ⟨RX11, "cutOf", "()I"⟩
def mX11_cutOf : MI := (yX11_cutOf, prog_13_method_97_code, 4, (some .int))
def yX11_floodBy : MethodName := ⟨RX11, "floodBy", "(II)I"⟩
def mX11_floodBy : MI := (yX11_floodBy, prog_13_method_98_code, 5, (some .int))
def yX11_flood : MethodName := ⟨RX11, "flood", "()I"⟩
def mX11_flood : MI := (yX11_flood, prog_13_method_99_code, 1, (some .int))
def yX11_cut : MethodName := ⟨RX11, "cut", "()I"⟩
def mX11_cut : MI := (yX11_cut, prog_13_method_100_code, 1, (some .int))
def yX11_floodIf : MethodName := ⟨RX11, "floodIf", "(II)I"⟩
def mX11_floodIf : MI := (yX11_floodIf, prog_13_method_101_code, 3, (some .int))
def yX11_narrow : MethodName := ⟨RX11, "narrow", "()I"⟩
def mX11_narrow : MI := (yX11_narrow, prog_13_method_102_code, 3, (some .int))
def yX11_downhill : MethodName := ⟨RX11, "downhill", "(I)I"⟩
def mX11_downhill : MI := (yX11_downhill, prog_13_method_103_code, 5, (some .int))
def yX11_gust : MethodName := ⟨RX11, "gust", "([I)V"⟩
def mX11_gust : MI := (yX11_gust, prog_13_method_104_code, 1, none)
def yX11_tryGusts : MethodName := ⟨RX11, "tryGusts", "(I)V"⟩
def mX11_tryGusts : MI := (yX11_tryGusts, prog_13_method_105_code, 6, none)
def yX11_likely : MethodName := ⟨RX11, "likely", "(IIZ)J"⟩
def mX11_likely : MI := (yX11_likely, prog_13_method_106_code, 4, (some .long))
def yX11_mean : MethodName := ⟨RX11, "mean", "(IZ)J"⟩
def mX11_mean : MI := (yX11_mean, prog_13_method_107_code, 4, (some .long))
def yX11_gustWhy : MethodName := ⟨RX11, "gustWhy", "(II)I"⟩
def mX11_gustWhy : MI := (yX11_gustWhy, prog_13_method_108_code, 5, (some .int))
def yX11_gusted : MethodName := ⟨RX11, "gusted", "(II)I"⟩
def mX11_gusted : MI := (yX11_gusted, prog_13_method_109_code, 4, (some .int))
def yX11_wetIn : MethodName := ⟨RX11, "wetIn", "(II)I"⟩
def mX11_wetIn : MI := (yX11_wetIn, prog_13_method_110_code, 4, (some .int))
def yX11_note : MethodName := ⟨RX11, "note", "()V"⟩
def mX11_note : MI := (yX11_note, prog_13_method_111_code, 2, none)
def yX11_open : MethodName := ⟨RX11, "open", "(I)Z"⟩
def mX11_open : MI := (yX11_open, prog_13_method_112_code, 2, (some .boolean))
def yX11_oil : MethodName := ⟨RX11, "oil", "()I"⟩
def mX11_oil : MI := (yX11_oil, prog_13_method_113_code, 1, (some .int))
def yX11_day : MethodName := ⟨RX11, "day", "()I"⟩
def mX11_day : MI := (yX11_day, prog_13_method_114_code, 1, (some .int))
def yX11_undo : MethodName := ⟨RX11, "undo", "()Z"⟩
def mX11_undo : MI := (yX11_undo, prog_13_method_115_code, 1, (some .boolean))
def yX11_image : MethodName := ⟨RX11, "image", "()I"⟩
def mX11_image : MI := (yX11_image, prog_13_method_116_code, 1, (some .int))
def yX11_back : MethodName := ⟨RX11, "back", "(I)Z"⟩
def mX11_back : MI := (yX11_back, prog_13_method_117_code, 2, (some .boolean))
def yX11_led : MethodName := ⟨RX11, "led", "(I)I"⟩
def mX11_led : MI := (yX11_led, prog_13_method_118_code, 4, (some .int))
def yX11_size : MethodName := ⟨RX11, "size", "(I)I"⟩
def mX11_size : MI := (yX11_size, prog_13_method_119_code, 2, (some .int))
def yX11_trouble : MethodName := ⟨RX11, "trouble", "()I"⟩
def mX11_trouble : MI := (yX11_trouble, prog_13_method_120_code, 1, (some .int))
def yJ9_max_7cf53 : MethodName := ⟨RJ9, "max", "(II)I"⟩
def mJ9_max_7cf53 : MI := (yJ9_max_7cf53, prog_18_method_65_code, 2, (some .int))
def yJ9_min_7cf53 : MethodName := ⟨RJ9, "min", "(II)I"⟩
def mJ9_min_7cf53 : MI := (yJ9_min_7cf53, prog_18_method_69_code, 2, (some .int))
def yJ0_length_8abf5 : MethodName := ⟨RJ0, "length", "()I"⟩
def mJ0_length_8abf5 : MI := (yJ0_length_8abf5, prog_20_method_54_code, 1, (some .int))
def yJ0_charAt_5068e : MethodName := ⟨RJ0, "charAt", "(I)C"⟩
def mJ0_charAt_5068e : MI := (yJ0_charAt_5068e, prog_20_method_56_code, 2, (some .char))
def yJ0_coder_7d493 : MethodName := ⟨RJ0, "coder", "()B"⟩
def mJ0_coder_7d493 : MI := (yJ0_coder_7d493, prog_20_method_152_code, 1, (some .byte))
def yJ0_isLatin1_aae02 : MethodName := ⟨RJ0, "isLatin1", "()Z"⟩
def mJ0_isLatin1_aae02 : MI := (yJ0_isLatin1_aae02, prog_20_method_154_code, 1, (some .boolean))
def yJ0_checkIndex_df160 : MethodName := ⟨RJ0, "checkIndex", "(II)V"⟩
def mJ0_checkIndex_df160 : MI := (yJ0_checkIndex_df160, prog_20_method_155_code, 2, none)
def yJ1_charAt_3b067 : MethodName := ⟨RJ1, "charAt", "([BI)C"⟩
def mJ1_charAt_3b067 : MI := (yJ1_charAt_3b067, prog_21_method_2_code, 2, (some .char))
def yJ2_getChar_3b067 : MethodName := ⟨RJ2, "getChar", "([BI)C"⟩
def mJ2_getChar_3b067 : MI := (yJ2_getChar_3b067, prog_22_method_5_code, 2, (some .char))
def yJ2_length_9d52b : MethodName := ⟨RJ2, "length", "([B)I"⟩
def mJ2_length_9d52b : MI := (yJ2_length_9d52b, prog_22_method_6_code, 1, (some .int))
def yJ2_charAt_3b067 : MethodName := ⟨RJ2, "charAt", "([BI)C"⟩
def mJ2_charAt_3b067 : MI := (yJ2_charAt_3b067, prog_22_method_83_code, 2, (some .char))
def yJ2_checkIndex_2214a : MethodName := ⟨RJ2, "checkIndex", "(I[B)V"⟩
def mJ2_checkIndex_2214a : MI := (yJ2_checkIndex_2214a, prog_22_method_91_code, 2, none)
def yJ7_fill_53178 : MethodName := ⟨RJ7, "fill", "([II)V"⟩
def mJ7_fill_53178 : MI := (yJ7_fill_53178, prog_26_method_103_code, 4, none)
def yJ3_checkIndex_8e157 : MethodName := ⟨RJ3, "checkIndex", "(IILjava/util/function/BiFunction;)I"⟩
def mJ3_checkIndex_8e157 : MI := (yJ3_checkIndex_8e157, prog_28_method_11_code, 3, (some .int))
def yL_led : MethodName := ⟨RL, "led", "(LChaletRule;I[J)I"⟩
def mL_led : MI := (yL_led, method_3_code, 4, (some .int))
def yL_law : MethodName := ⟨RL, "law", "([I)Z"⟩
def mL_law : MI := (yL_law, code, 7, some .boolean)
def cd (m : MI) : ByteArray := m.2.1
def mxl (m : MI) : Nat := m.2.2.1
def rty (m : MI) : Option FieldType := m.2.2.2
/-- the words that a callee may take along: all of the tables' that are good -/
def BIG : List Cond := lw_tbl.filter goodWord
def cw (m : MI) : Cond := .code m.1 (cd m) (mxl m) (rty m)
def wsOf (m : MI) : List Cond := cw m :: BIG
theorem big_lw {w : Cond} (h : w ∈ BIG) : w ∈ lw_tbl := (List.mem_filter.mp h).1
theorem big_good {w : Cond} (h : w ∈ BIG) : goodWord w = true := (List.mem_filter.mp h).2
theorem big_in {w : Cond} (h : w ∈ tables_1) (hg : goodWord w = true) : w ∈ BIG := List.mem_filter.mpr ⟨List.mem_append_right _ h, hg⟩
theorem big_sel {w : Cond} (h : w ∈ k2_sels lw_privs) (hg : goodWord w = true) : w ∈ BIG := List.mem_filter.mpr ⟨List.mem_append_left _ h, hg⟩
theorem good_callee {m : MI} (h : cw m ∈ BIG) : GoodIn BIG (wsOf m) := by
  intro w hw
  rcases List.mem_cons.mp hw with rfl | hw
  · exact ⟨h, good_of_word (big_good h)⟩
  · exact ⟨hw, good_of_word (big_good hw)⟩
theorem tn1 (i : Nat) {w : Cond} (h0 : tables_1_1[i]? = some w) : w ∈ lw_tbl := by
  have h : w ∈ tables_1_1 := List.mem_of_getElem? h0
  exact List.mem_append_right _ (List.mem_append_left _ (h))
theorem in1 (i : Nat) {w : Cond} (h0 : tables_1_1[i]? = some w) (hg : goodWord w = true) : w ∈ BIG := by
  have h : w ∈ tables_1_1 := List.mem_of_getElem? h0
  exact big_in (List.mem_append_left _ (h)) hg
theorem tn2 (i : Nat) {w : Cond} (h0 : tables_1_2[i]? = some w) : w ∈ lw_tbl := by
  have h : w ∈ tables_1_2 := List.mem_of_getElem? h0
  exact List.mem_append_right _ (List.mem_append_right _ (List.mem_append_left _ (h)))
theorem in2 (i : Nat) {w : Cond} (h0 : tables_1_2[i]? = some w) (hg : goodWord w = true) : w ∈ BIG := by
  have h : w ∈ tables_1_2 := List.mem_of_getElem? h0
  exact big_in (List.mem_append_right _ (List.mem_append_left _ (h))) hg
theorem tn3 (i : Nat) {w : Cond} (h0 : tables_1_3[i]? = some w) : w ∈ lw_tbl := by
  have h : w ∈ tables_1_3 := List.mem_of_getElem? h0
  exact List.mem_append_right _ (List.mem_append_right _ (List.mem_append_right _ (List.mem_append_left _ (h))))
theorem in3 (i : Nat) {w : Cond} (h0 : tables_1_3[i]? = some w) (hg : goodWord w = true) : w ∈ BIG := by
  have h : w ∈ tables_1_3 := List.mem_of_getElem? h0
  exact big_in (List.mem_append_right _ (List.mem_append_right _ (List.mem_append_left _ (h)))) hg
theorem tn4 (i : Nat) {w : Cond} (h0 : tables_1_4[i]? = some w) : w ∈ lw_tbl := by
  have h : w ∈ tables_1_4 := List.mem_of_getElem? h0
  exact List.mem_append_right _ (List.mem_append_right _ (List.mem_append_right _ (List.mem_append_right _ (List.mem_append_left _ (h)))))
theorem in4 (i : Nat) {w : Cond} (h0 : tables_1_4[i]? = some w) (hg : goodWord w = true) : w ∈ BIG := by
  have h : w ∈ tables_1_4 := List.mem_of_getElem? h0
  exact big_in (List.mem_append_right _ (List.mem_append_right _ (List.mem_append_right _ (List.mem_append_left _ (h))))) hg
theorem tn5 (i : Nat) {w : Cond} (h0 : tables_1_5[i]? = some w) : w ∈ lw_tbl := by
  have h : w ∈ tables_1_5 := List.mem_of_getElem? h0
  exact List.mem_append_right _ (List.mem_append_right _ (List.mem_append_right _ (List.mem_append_right _ (List.mem_append_right _ (List.mem_append_left _ (h))))))
theorem in5 (i : Nat) {w : Cond} (h0 : tables_1_5[i]? = some w) (hg : goodWord w = true) : w ∈ BIG := by
  have h : w ∈ tables_1_5 := List.mem_of_getElem? h0
  exact big_in (List.mem_append_right _ (List.mem_append_right _ (List.mem_append_right _ (List.mem_append_right _ (List.mem_append_left _ (h)))))) hg
theorem tn6 (i : Nat) {w : Cond} (h0 : tables_1_6[i]? = some w) : w ∈ lw_tbl := by
  have h : w ∈ tables_1_6 := List.mem_of_getElem? h0
  exact List.mem_append_right _ (List.mem_append_right _ (List.mem_append_right _ (List.mem_append_right _ (List.mem_append_right _ (List.mem_append_right _ (List.mem_append_left _ (h)))))))
theorem in6 (i : Nat) {w : Cond} (h0 : tables_1_6[i]? = some w) (hg : goodWord w = true) : w ∈ BIG := by
  have h : w ∈ tables_1_6 := List.mem_of_getElem? h0
  exact big_in (List.mem_append_right _ (List.mem_append_right _ (List.mem_append_right _ (List.mem_append_right _ (List.mem_append_right _ (List.mem_append_left _ (h))))))) hg
theorem tn7 (i : Nat) {w : Cond} (h0 : tables_1_7[i]? = some w) : w ∈ lw_tbl := by
  have h : w ∈ tables_1_7 := List.mem_of_getElem? h0
  exact List.mem_append_right _ (List.mem_append_right _ (List.mem_append_right _ (List.mem_append_right _ (List.mem_append_right _ (List.mem_append_right _ (List.mem_append_right _ (List.mem_append_left _ (h))))))))
theorem in7 (i : Nat) {w : Cond} (h0 : tables_1_7[i]? = some w) (hg : goodWord w = true) : w ∈ BIG := by
  have h : w ∈ tables_1_7 := List.mem_of_getElem? h0
  exact big_in (List.mem_append_right _ (List.mem_append_right _ (List.mem_append_right _ (List.mem_append_right _ (List.mem_append_right _ (List.mem_append_right _ (List.mem_append_left _ (h)))))))) hg
theorem tn8 (i : Nat) {w : Cond} (h0 : tables_1_8[i]? = some w) : w ∈ lw_tbl := by
  have h : w ∈ tables_1_8 := List.mem_of_getElem? h0
  exact List.mem_append_right _ (List.mem_append_right _ (List.mem_append_right _ (List.mem_append_right _ (List.mem_append_right _ (List.mem_append_right _ (List.mem_append_right _ (List.mem_append_right _ (h))))))))
theorem in8 (i : Nat) {w : Cond} (h0 : tables_1_8[i]? = some w) (hg : goodWord w = true) : w ∈ BIG := by
  have h : w ∈ tables_1_8 := List.mem_of_getElem? h0
  exact big_in (List.mem_append_right _ (List.mem_append_right _ (List.mem_append_right _ (List.mem_append_right _ (List.mem_append_right _ (List.mem_append_right _ (List.mem_append_right _ (h)))))))) hg
abbrev classes : List vw_C := [(RX0, TX0, 9), (RX2, TX2, 2), (RX3, TX3, 4), (RX4, TX4, 8), (RX5, TX5, 5), (RX6, TX6, 16), (RX7, TX7, 4), (RX8, TX8, 11), (RX9, TX9, 5), (RX10, TX10, 12), (RX11, TX11, 40)]
theorem inX0 : ∀ w ∈ u_ws RX0 TX0 9, w ∈ BIG := List.forall_mem_cons.mpr ⟨(in1 221 (by decide +kernel) rfl), List.forall_mem_cons.mpr ⟨(in1 223 (by decide +kernel) rfl), List.forall_mem_cons.mpr ⟨(in1 225 (by decide +kernel) rfl), List.forall_mem_cons.mpr ⟨(in1 227 (by decide +kernel) rfl), List.forall_mem_cons.mpr ⟨(in1 229 (by decide +kernel) rfl), List.forall_mem_cons.mpr ⟨(in1 231 (by decide +kernel) rfl), List.forall_mem_cons.mpr ⟨(in1 233 (by decide +kernel) rfl), List.forall_mem_cons.mpr ⟨(in1 235 (by decide +kernel) rfl), List.forall_mem_cons.mpr ⟨(in1 237 (by decide +kernel) rfl), fun _ h => absurd h List.not_mem_nil⟩⟩⟩⟩⟩⟩⟩⟩⟩
theorem inX2 : ∀ w ∈ u_ws RX2 TX2 2, w ∈ BIG := List.forall_mem_cons.mpr ⟨(in2 37 (by decide +kernel) rfl), List.forall_mem_cons.mpr ⟨(in2 39 (by decide +kernel) rfl), fun _ h => absurd h List.not_mem_nil⟩⟩
theorem inX3 : ∀ w ∈ u_ws RX3 TX3 4, w ∈ BIG := List.forall_mem_cons.mpr ⟨(in2 120 (by decide +kernel) rfl), List.forall_mem_cons.mpr ⟨(in2 122 (by decide +kernel) rfl), List.forall_mem_cons.mpr ⟨(in2 124 (by decide +kernel) rfl), List.forall_mem_cons.mpr ⟨(in2 126 (by decide +kernel) rfl), fun _ h => absurd h List.not_mem_nil⟩⟩⟩⟩
theorem inX4 : ∀ w ∈ u_ws RX4 TX4 8, w ∈ BIG := List.forall_mem_cons.mpr ⟨(in2 87 (by decide +kernel) rfl), List.forall_mem_cons.mpr ⟨(in2 89 (by decide +kernel) rfl), List.forall_mem_cons.mpr ⟨(in2 91 (by decide +kernel) rfl), List.forall_mem_cons.mpr ⟨(in2 93 (by decide +kernel) rfl), List.forall_mem_cons.mpr ⟨(in2 95 (by decide +kernel) rfl), List.forall_mem_cons.mpr ⟨(in2 97 (by decide +kernel) rfl), List.forall_mem_cons.mpr ⟨(in2 99 (by decide +kernel) rfl), List.forall_mem_cons.mpr ⟨(in2 101 (by decide +kernel) rfl), fun _ h => absurd h List.not_mem_nil⟩⟩⟩⟩⟩⟩⟩⟩
theorem inX5 : ∀ w ∈ u_ws RX5 TX5 5, w ∈ BIG := List.forall_mem_cons.mpr ⟨(in2 16 (by decide +kernel) rfl), List.forall_mem_cons.mpr ⟨(in2 18 (by decide +kernel) rfl), List.forall_mem_cons.mpr ⟨(in2 20 (by decide +kernel) rfl), List.forall_mem_cons.mpr ⟨(in2 22 (by decide +kernel) rfl), List.forall_mem_cons.mpr ⟨(in2 24 (by decide +kernel) rfl), fun _ h => absurd h List.not_mem_nil⟩⟩⟩⟩⟩
theorem inX6 : ∀ w ∈ u_ws RX6 TX6 16, w ∈ BIG := List.forall_mem_cons.mpr ⟨(in1 155 (by decide +kernel) rfl), List.forall_mem_cons.mpr ⟨(in1 157 (by decide +kernel) rfl), List.forall_mem_cons.mpr ⟨(in1 161 (by decide +kernel) rfl), List.forall_mem_cons.mpr ⟨(in1 163 (by decide +kernel) rfl), List.forall_mem_cons.mpr ⟨(in1 165 (by decide +kernel) rfl), List.forall_mem_cons.mpr ⟨(in1 167 (by decide +kernel) rfl), List.forall_mem_cons.mpr ⟨(in1 169 (by decide +kernel) rfl), List.forall_mem_cons.mpr ⟨(in1 171 (by decide +kernel) rfl), List.forall_mem_cons.mpr ⟨(in1 173 (by decide +kernel) rfl), List.forall_mem_cons.mpr ⟨(in1 175 (by decide +kernel) rfl), List.forall_mem_cons.mpr ⟨(in1 177 (by decide +kernel) rfl), List.forall_mem_cons.mpr ⟨(in1 179 (by decide +kernel) rfl), List.forall_mem_cons.mpr ⟨(in1 181 (by decide +kernel) rfl), List.forall_mem_cons.mpr ⟨(in1 183 (by decide +kernel) rfl), List.forall_mem_cons.mpr ⟨(in1 185 (by decide +kernel) rfl), List.forall_mem_cons.mpr ⟨(in1 159 (by decide +kernel) rfl), fun _ h => absurd h List.not_mem_nil⟩⟩⟩⟩⟩⟩⟩⟩⟩⟩⟩⟩⟩⟩⟩⟩
theorem inX7 : ∀ w ∈ u_ws RX7 TX7 4, w ∈ BIG := List.forall_mem_cons.mpr ⟨(in1 58 (by decide +kernel) rfl), List.forall_mem_cons.mpr ⟨(in1 60 (by decide +kernel) rfl), List.forall_mem_cons.mpr ⟨(in1 62 (by decide +kernel) rfl), List.forall_mem_cons.mpr ⟨(in1 64 (by decide +kernel) rfl), fun _ h => absurd h List.not_mem_nil⟩⟩⟩⟩
theorem inX8 : ∀ w ∈ u_ws RX8 TX8 11, w ∈ BIG := List.forall_mem_cons.mpr ⟨(in1 112 (by decide +kernel) rfl), List.forall_mem_cons.mpr ⟨(in1 114 (by decide +kernel) rfl), List.forall_mem_cons.mpr ⟨(in1 116 (by decide +kernel) rfl), List.forall_mem_cons.mpr ⟨(in1 118 (by decide +kernel) rfl), List.forall_mem_cons.mpr ⟨(in1 120 (by decide +kernel) rfl), List.forall_mem_cons.mpr ⟨(in1 122 (by decide +kernel) rfl), List.forall_mem_cons.mpr ⟨(in1 124 (by decide +kernel) rfl), List.forall_mem_cons.mpr ⟨(in1 126 (by decide +kernel) rfl), List.forall_mem_cons.mpr ⟨(in1 128 (by decide +kernel) rfl), List.forall_mem_cons.mpr ⟨(in1 130 (by decide +kernel) rfl), List.forall_mem_cons.mpr ⟨(in1 132 (by decide +kernel) rfl), fun _ h => absurd h List.not_mem_nil⟩⟩⟩⟩⟩⟩⟩⟩⟩⟩⟩
theorem inX9 : ∀ w ∈ u_ws RX9 TX9 5, w ∈ BIG := List.forall_mem_cons.mpr ⟨(in2 57 (by decide +kernel) rfl), List.forall_mem_cons.mpr ⟨(in2 59 (by decide +kernel) rfl), List.forall_mem_cons.mpr ⟨(in2 61 (by decide +kernel) rfl), List.forall_mem_cons.mpr ⟨(in2 63 (by decide +kernel) rfl), List.forall_mem_cons.mpr ⟨(in2 65 (by decide +kernel) rfl), fun _ h => absurd h List.not_mem_nil⟩⟩⟩⟩⟩
theorem inX10 : ∀ w ∈ u_ws RX10 TX10 12, w ∈ BIG := List.forall_mem_cons.mpr ⟨(in2 161 (by decide +kernel) rfl), List.forall_mem_cons.mpr ⟨(in2 163 (by decide +kernel) rfl), List.forall_mem_cons.mpr ⟨(in2 141 (by decide +kernel) rfl), List.forall_mem_cons.mpr ⟨(in2 143 (by decide +kernel) rfl), List.forall_mem_cons.mpr ⟨(in2 145 (by decide +kernel) rfl), List.forall_mem_cons.mpr ⟨(in2 147 (by decide +kernel) rfl), List.forall_mem_cons.mpr ⟨(in2 149 (by decide +kernel) rfl), List.forall_mem_cons.mpr ⟨(in2 151 (by decide +kernel) rfl), List.forall_mem_cons.mpr ⟨(in2 153 (by decide +kernel) rfl), List.forall_mem_cons.mpr ⟨(in2 155 (by decide +kernel) rfl), List.forall_mem_cons.mpr ⟨(in2 157 (by decide +kernel) rfl), List.forall_mem_cons.mpr ⟨(in2 159 (by decide +kernel) rfl), fun _ h => absurd h List.not_mem_nil⟩⟩⟩⟩⟩⟩⟩⟩⟩⟩⟩⟩
theorem inX11 : ∀ w ∈ u_ws RX11 TX11 40, w ∈ BIG := List.forall_mem_cons.mpr ⟨(in6 29 (by decide +kernel) rfl), List.forall_mem_cons.mpr ⟨(in6 31 (by decide +kernel) rfl), List.forall_mem_cons.mpr ⟨(in6 33 (by decide +kernel) rfl), List.forall_mem_cons.mpr ⟨(in6 35 (by decide +kernel) rfl), List.forall_mem_cons.mpr ⟨(in6 37 (by decide +kernel) rfl), List.forall_mem_cons.mpr ⟨(in6 39 (by decide +kernel) rfl), List.forall_mem_cons.mpr ⟨(in6 41 (by decide +kernel) rfl), List.forall_mem_cons.mpr ⟨(in6 43 (by decide +kernel) rfl), List.forall_mem_cons.mpr ⟨(in6 45 (by decide +kernel) rfl), List.forall_mem_cons.mpr ⟨(in6 47 (by decide +kernel) rfl), List.forall_mem_cons.mpr ⟨(in6 49 (by decide +kernel) rfl), List.forall_mem_cons.mpr ⟨(in6 51 (by decide +kernel) rfl), List.forall_mem_cons.mpr ⟨(in6 53 (by decide +kernel) rfl), List.forall_mem_cons.mpr ⟨(in6 55 (by decide +kernel) rfl), List.forall_mem_cons.mpr ⟨(in6 57 (by decide +kernel) rfl), List.forall_mem_cons.mpr ⟨(in6 59 (by decide +kernel) rfl), List.forall_mem_cons.mpr ⟨(in6 61 (by decide +kernel) rfl), List.forall_mem_cons.mpr ⟨(in6 63 (by decide +kernel) rfl), List.forall_mem_cons.mpr ⟨(in6 65 (by decide +kernel) rfl), List.forall_mem_cons.mpr ⟨(in6 67 (by decide +kernel) rfl), List.forall_mem_cons.mpr ⟨(in6 69 (by decide +kernel) rfl), List.forall_mem_cons.mpr ⟨(in6 71 (by decide +kernel) rfl), List.forall_mem_cons.mpr ⟨(in6 73 (by decide +kernel) rfl), List.forall_mem_cons.mpr ⟨(in6 75 (by decide +kernel) rfl), List.forall_mem_cons.mpr ⟨(in6 77 (by decide +kernel) rfl), List.forall_mem_cons.mpr ⟨(in6 79 (by decide +kernel) rfl), List.forall_mem_cons.mpr ⟨(in6 81 (by decide +kernel) rfl), List.forall_mem_cons.mpr ⟨(in6 83 (by decide +kernel) rfl), List.forall_mem_cons.mpr ⟨(in6 85 (by decide +kernel) rfl), List.forall_mem_cons.mpr ⟨(in6 87 (by decide +kernel) rfl), List.forall_mem_cons.mpr ⟨(in6 89 (by decide +kernel) rfl), List.forall_mem_cons.mpr ⟨(in6 91 (by decide +kernel) rfl), List.forall_mem_cons.mpr ⟨(in6 93 (by decide +kernel) rfl), List.forall_mem_cons.mpr ⟨(in6 95 (by decide +kernel) rfl), List.forall_mem_cons.mpr ⟨(in6 97 (by decide +kernel) rfl), List.forall_mem_cons.mpr ⟨(in6 99 (by decide +kernel) rfl), List.forall_mem_cons.mpr ⟨(in6 101 (by decide +kernel) rfl), List.forall_mem_cons.mpr ⟨(in6 103 (by decide +kernel) rfl), List.forall_mem_cons.mpr ⟨(in6 105 (by decide +kernel) rfl), List.forall_mem_cons.mpr ⟨(in6 107 (by decide +kernel) rfl), fun _ h => absurd h List.not_mem_nil⟩⟩⟩⟩⟩⟩⟩⟩⟩⟩⟩⟩⟩⟩⟩⟩⟩⟩⟩⟩⟩⟩⟩⟩⟩⟩⟩⟩⟩⟩⟩⟩⟩⟩⟩⟩⟩⟩⟩⟩
/-- field (ci, j) of the classes, by the entry idx of the class own -/
def FL (own : String) (idx ci j : Nat) (fin : Bool) (ty : FieldType) : Prop := ∃ (C : String) (T : u_T) (N : Nat) (ty0 : Nat → FieldType), classes[ci]? = some (C, T, N) ∧ j < N ∧ (∀ w ∈ u_ws C T N, w ∈ BIG) ∧ Cond.fieldLink own idx (T j).1 (T j).2.1 (T j).2.2.1 ∈ BIG ∧ (∀ k, k < N → parseFieldDescriptor (T k).2.2.1 = some (ty0 k)) ∧ (∀ a, a < N → ∀ b, b < N → a ≠ b → (T a).2.1 ≠ (T b).2.1) ∧ (T j).2.2.2 = fin ∧ (T j).1 = C ∧ parseFieldDescriptor (T j).2.2.1 = some ty
theorem f_X7_7 : FL RX7 7 6 0 true .int := ⟨RX7, TX7, 4, tyX7, rfl, by decide, inX7, (in1 49 (by decide +kernel) rfl), tyX7_ok, nmX7, rfl, rfl, by decide +kernel⟩
theorem f_X7_13 : FL RX7 13 6 1 true .int := ⟨RX7, TX7, 4, tyX7, rfl, by decide, inX7, (in1 50 (by decide +kernel) rfl), tyX7_ok, nmX7, rfl, rfl, by decide +kernel⟩
theorem f_X7_16 : FL RX7 16 6 2 true (.array .int) := ⟨RX7, TX7, 4, tyX7, rfl, by decide, inX7, (in1 51 (by decide +kernel) rfl), tyX7_ok, nmX7, rfl, rfl, by decide +kernel⟩
theorem f_X7_20 : FL RX7 20 6 3 false .int := ⟨RX7, TX7, 4, tyX7, rfl, by decide, inX7, (in1 52 (by decide +kernel) rfl), tyX7_ok, nmX7, rfl, rfl, by decide +kernel⟩
theorem f_X8_51 : FL RX8 51 6 3 false .int := ⟨RX7, TX7, 4, tyX7, rfl, by decide, inX7, (in1 53 (by decide +kernel) rfl), tyX7_ok, nmX7, rfl, rfl, by decide +kernel⟩
theorem f_X10_108 : FL RX10 108 6 3 false .int := ⟨RX7, TX7, 4, tyX7, rfl, by decide, inX7, (in1 54 (by decide +kernel) rfl), tyX7_ok, nmX7, rfl, rfl, by decide +kernel⟩
theorem f_X1_29 : FL RX1 29 6 3 false .int := ⟨RX7, TX7, 4, tyX7, rfl, by decide, inX7, (in1 55 (by decide +kernel) rfl), tyX7_ok, nmX7, rfl, rfl, by decide +kernel⟩
theorem f_X9_59 : FL RX9 59 6 3 false .int := ⟨RX7, TX7, 4, tyX7, rfl, by decide, inX7, (in1 56 (by decide +kernel) rfl), tyX7_ok, nmX7, rfl, rfl, by decide +kernel⟩
theorem f_X4_88 : FL RX4 88 6 3 false .int := ⟨RX7, TX7, 4, tyX7, rfl, by decide, inX7, (in1 57 (by decide +kernel) rfl), tyX7_ok, nmX7, rfl, rfl, by decide +kernel⟩
theorem f_X8_29 : FL RX8 29 7 0 false .int := ⟨RX8, TX8, 11, tyX8, rfl, by decide, inX8, (in1 68 (by decide +kernel) rfl), tyX8_ok, nmX8, rfl, rfl, by decide +kernel⟩
theorem f_X6_150 : FL RX6 150 7 0 false .int := ⟨RX8, TX8, 11, tyX8, rfl, by decide, inX8, (in1 69 (by decide +kernel) rfl), tyX8_ok, nmX8, rfl, rfl, by decide +kernel⟩
theorem f_X4_70 : FL RX4 70 7 0 false .int := ⟨RX8, TX8, 11, tyX8, rfl, by decide, inX8, (in1 70 (by decide +kernel) rfl), tyX8_ok, nmX8, rfl, rfl, by decide +kernel⟩
theorem f_X10_345 : FL RX10 345 7 0 false .int := ⟨RX8, TX8, 11, tyX8, rfl, by decide, inX8, (in1 71 (by decide +kernel) rfl), tyX8_ok, nmX8, rfl, rfl, by decide +kernel⟩
theorem f_X8_33 : FL RX8 33 7 1 false .int := ⟨RX8, TX8, 11, tyX8, rfl, by decide, inX8, (in1 72 (by decide +kernel) rfl), tyX8_ok, nmX8, rfl, rfl, by decide +kernel⟩
theorem f_X6_154 : FL RX6 154 7 1 false .int := ⟨RX8, TX8, 11, tyX8, rfl, by decide, inX8, (in1 73 (by decide +kernel) rfl), tyX8_ok, nmX8, rfl, rfl, by decide +kernel⟩
theorem f_X4_54 : FL RX4 54 7 1 false .int := ⟨RX8, TX8, 11, tyX8, rfl, by decide, inX8, (in1 74 (by decide +kernel) rfl), tyX8_ok, nmX8, rfl, rfl, by decide +kernel⟩
theorem f_X10_317 : FL RX10 317 7 1 false .int := ⟨RX8, TX8, 11, tyX8, rfl, by decide, inX8, (in1 75 (by decide +kernel) rfl), tyX8_ok, nmX8, rfl, rfl, by decide +kernel⟩
theorem f_X8_36 : FL RX8 36 7 2 false .int := ⟨RX8, TX8, 11, tyX8, rfl, by decide, inX8, (in1 76 (by decide +kernel) rfl), tyX8_ok, nmX8, rfl, rfl, by decide +kernel⟩
theorem f_X6_158 : FL RX6 158 7 2 false .int := ⟨RX8, TX8, 11, tyX8, rfl, by decide, inX8, (in1 77 (by decide +kernel) rfl), tyX8_ok, nmX8, rfl, rfl, by decide +kernel⟩
theorem f_X4_59 : FL RX4 59 7 2 false .int := ⟨RX8, TX8, 11, tyX8, rfl, by decide, inX8, (in1 78 (by decide +kernel) rfl), tyX8_ok, nmX8, rfl, rfl, by decide +kernel⟩
theorem f_X10_320 : FL RX10 320 7 2 false .int := ⟨RX8, TX8, 11, tyX8, rfl, by decide, inX8, (in1 79 (by decide +kernel) rfl), tyX8_ok, nmX8, rfl, rfl, by decide +kernel⟩
theorem f_X8_39 : FL RX8 39 7 3 false .int := ⟨RX8, TX8, 11, tyX8, rfl, by decide, inX8, (in1 80 (by decide +kernel) rfl), tyX8_ok, nmX8, rfl, rfl, by decide +kernel⟩
theorem f_X3_53 : FL RX3 53 7 3 false .int := ⟨RX8, TX8, 11, tyX8, rfl, by decide, inX8, (in1 81 (by decide +kernel) rfl), tyX8_ok, nmX8, rfl, rfl, by decide +kernel⟩
theorem f_X6_162 : FL RX6 162 7 3 false .int := ⟨RX8, TX8, 11, tyX8, rfl, by decide, inX8, (in1 82 (by decide +kernel) rfl), tyX8_ok, nmX8, rfl, rfl, by decide +kernel⟩
theorem f_X10_321 : FL RX10 321 7 3 false .int := ⟨RX8, TX8, 11, tyX8, rfl, by decide, inX8, (in1 83 (by decide +kernel) rfl), tyX8_ok, nmX8, rfl, rfl, by decide +kernel⟩
theorem f_X8_42 : FL RX8 42 7 4 false .int := ⟨RX8, TX8, 11, tyX8, rfl, by decide, inX8, (in1 84 (by decide +kernel) rfl), tyX8_ok, nmX8, rfl, rfl, by decide +kernel⟩
theorem f_X6_166 : FL RX6 166 7 4 false .int := ⟨RX8, TX8, 11, tyX8, rfl, by decide, inX8, (in1 85 (by decide +kernel) rfl), tyX8_ok, nmX8, rfl, rfl, by decide +kernel⟩
theorem f_X0_56 : FL RX0 56 7 4 false .int := ⟨RX8, TX8, 11, tyX8, rfl, by decide, inX8, (in1 86 (by decide +kernel) rfl), tyX8_ok, nmX8, rfl, rfl, by decide +kernel⟩
theorem f_X10_324 : FL RX10 324 7 4 false .int := ⟨RX8, TX8, 11, tyX8, rfl, by decide, inX8, (in1 87 (by decide +kernel) rfl), tyX8_ok, nmX8, rfl, rfl, by decide +kernel⟩
theorem f_X8_45 : FL RX8 45 7 5 false .int := ⟨RX8, TX8, 11, tyX8, rfl, by decide, inX8, (in1 88 (by decide +kernel) rfl), tyX8_ok, nmX8, rfl, rfl, by decide +kernel⟩
theorem f_X6_170 : FL RX6 170 7 5 false .int := ⟨RX8, TX8, 11, tyX8, rfl, by decide, inX8, (in1 89 (by decide +kernel) rfl), tyX8_ok, nmX8, rfl, rfl, by decide +kernel⟩
theorem f_X0_61 : FL RX0 61 7 5 false .int := ⟨RX8, TX8, 11, tyX8, rfl, by decide, inX8, (in1 90 (by decide +kernel) rfl), tyX8_ok, nmX8, rfl, rfl, by decide +kernel⟩
theorem f_X10_327 : FL RX10 327 7 5 false .int := ⟨RX8, TX8, 11, tyX8, rfl, by decide, inX8, (in1 91 (by decide +kernel) rfl), tyX8_ok, nmX8, rfl, rfl, by decide +kernel⟩
theorem f_X1_9 : FL RX1 9 7 6 false .int := ⟨RX8, TX8, 11, tyX8, rfl, by decide, inX8, (in1 92 (by decide +kernel) rfl), tyX8_ok, nmX8, rfl, rfl, by decide +kernel⟩
theorem f_X8_48 : FL RX8 48 7 6 false .int := ⟨RX8, TX8, 11, tyX8, rfl, by decide, inX8, (in1 93 (by decide +kernel) rfl), tyX8_ok, nmX8, rfl, rfl, by decide +kernel⟩
theorem f_X6_126 : FL RX6 126 7 6 false .int := ⟨RX8, TX8, 11, tyX8, rfl, by decide, inX8, (in1 94 (by decide +kernel) rfl), tyX8_ok, nmX8, rfl, rfl, by decide +kernel⟩
theorem f_X10_247 : FL RX10 247 7 6 false .int := ⟨RX8, TX8, 11, tyX8, rfl, by decide, inX8, (in1 95 (by decide +kernel) rfl), tyX8_ok, nmX8, rfl, rfl, by decide +kernel⟩
theorem f_X8_14 : FL RX8 14 7 7 true (.object "ChaletRule$Table") := ⟨RX8, TX8, 11, tyX8, rfl, by decide, inX8, (in1 96 (by decide +kernel) rfl), tyX8_ok, nmX8, rfl, rfl, by decide +kernel⟩
theorem f_X10_104 : FL RX10 104 7 7 true (.object "ChaletRule$Table") := ⟨RX8, TX8, 11, tyX8, rfl, by decide, inX8, (in1 97 (by decide +kernel) rfl), tyX8_ok, nmX8, rfl, rfl, by decide +kernel⟩
theorem f_X9_53 : FL RX9 53 7 7 true (.object "ChaletRule$Table") := ⟨RX8, TX8, 11, tyX8, rfl, by decide, inX8, (in1 98 (by decide +kernel) rfl), tyX8_ok, nmX8, rfl, rfl, by decide +kernel⟩
theorem f_X6_96 : FL RX6 96 7 7 true (.object "ChaletRule$Table") := ⟨RX8, TX8, 11, tyX8, rfl, by decide, inX8, (in1 99 (by decide +kernel) rfl), tyX8_ok, nmX8, rfl, rfl, by decide +kernel⟩
theorem f_X8_20 : FL RX8 20 7 8 true (.object "ChaletRule$Table") := ⟨RX8, TX8, 11, tyX8, rfl, by decide, inX8, (in1 100 (by decide +kernel) rfl), tyX8_ok, nmX8, rfl, rfl, by decide +kernel⟩
theorem f_X2_30 : FL RX2 30 7 8 true (.object "ChaletRule$Table") := ⟨RX8, TX8, 11, tyX8, rfl, by decide, inX8, (in1 101 (by decide +kernel) rfl), tyX8_ok, nmX8, rfl, rfl, by decide +kernel⟩
theorem f_X6_110 : FL RX6 110 7 8 true (.object "ChaletRule$Table") := ⟨RX8, TX8, 11, tyX8, rfl, by decide, inX8, (in1 102 (by decide +kernel) rfl), tyX8_ok, nmX8, rfl, rfl, by decide +kernel⟩
theorem f_X10_147 : FL RX10 147 7 8 true (.object "ChaletRule$Table") := ⟨RX8, TX8, 11, tyX8, rfl, by decide, inX8, (in1 103 (by decide +kernel) rfl), tyX8_ok, nmX8, rfl, rfl, by decide +kernel⟩
theorem f_X8_23 : FL RX8 23 7 9 true (.object "ChaletRule$Table") := ⟨RX8, TX8, 11, tyX8, rfl, by decide, inX8, (in1 104 (by decide +kernel) rfl), tyX8_ok, nmX8, rfl, rfl, by decide +kernel⟩
theorem f_X6_118 : FL RX6 118 7 9 true (.object "ChaletRule$Table") := ⟨RX8, TX8, 11, tyX8, rfl, by decide, inX8, (in1 105 (by decide +kernel) rfl), tyX8_ok, nmX8, rfl, rfl, by decide +kernel⟩
theorem f_X4_84 : FL RX4 84 7 9 true (.object "ChaletRule$Table") := ⟨RX8, TX8, 11, tyX8, rfl, by decide, inX8, (in1 106 (by decide +kernel) rfl), tyX8_ok, nmX8, rfl, rfl, by decide +kernel⟩
theorem f_X10_330 : FL RX10 330 7 9 true (.object "ChaletRule$Table") := ⟨RX8, TX8, 11, tyX8, rfl, by decide, inX8, (in1 107 (by decide +kernel) rfl), tyX8_ok, nmX8, rfl, rfl, by decide +kernel⟩
theorem f_X8_26 : FL RX8 26 7 10 true (.object "ChaletRule$Table") := ⟨RX8, TX8, 11, tyX8, rfl, by decide, inX8, (in1 108 (by decide +kernel) rfl), tyX8_ok, nmX8, rfl, rfl, by decide +kernel⟩
theorem f_X1_25 : FL RX1 25 7 10 true (.object "ChaletRule$Table") := ⟨RX8, TX8, 11, tyX8, rfl, by decide, inX8, (in1 109 (by decide +kernel) rfl), tyX8_ok, nmX8, rfl, rfl, by decide +kernel⟩
theorem f_X6_132 : FL RX6 132 7 10 true (.object "ChaletRule$Table") := ⟨RX8, TX8, 11, tyX8, rfl, by decide, inX8, (in1 110 (by decide +kernel) rfl), tyX8_ok, nmX8, rfl, rfl, by decide +kernel⟩
theorem f_X10_253 : FL RX10 253 7 10 true (.object "ChaletRule$Table") := ⟨RX8, TX8, 11, tyX8, rfl, by decide, inX8, (in1 111 (by decide +kernel) rfl), tyX8_ok, nmX8, rfl, rfl, by decide +kernel⟩
theorem f_X6_49 : FL RX6 49 5 0 false .int := ⟨RX6, TX6, 16, tyX6, rfl, by decide, inX6, (in1 135 (by decide +kernel) rfl), tyX6_ok, nmX6, rfl, rfl, by decide +kernel⟩
theorem f_X10_88 : FL RX10 88 5 0 false .int := ⟨RX6, TX6, 16, tyX6, rfl, by decide, inX6, (in1 136 (by decide +kernel) rfl), tyX6_ok, nmX6, rfl, rfl, by decide +kernel⟩
theorem f_X6_52 : FL RX6 52 5 1 false .int := ⟨RX6, TX6, 16, tyX6, rfl, by decide, inX6, (in1 137 (by decide +kernel) rfl), tyX6_ok, nmX6, rfl, rfl, by decide +kernel⟩
theorem f_X10_92 : FL RX10 92 5 1 false .int := ⟨RX6, TX6, 16, tyX6, rfl, by decide, inX6, (in1 138 (by decide +kernel) rfl), tyX6_ok, nmX6, rfl, rfl, by decide +kernel⟩
theorem f_X10_65 : FL RX10 65 5 15 false .int := ⟨RX6, TX6, 16, tyX6, rfl, by decide, inX6, (in1 139 (by decide +kernel) rfl), tyX6_ok, nmX6, rfl, rfl, by decide +kernel⟩
theorem f_X6_30 : FL RX6 30 5 15 false .int := ⟨RX6, TX6, 16, tyX6, rfl, by decide, inX6, (in1 140 (by decide +kernel) rfl), tyX6_ok, nmX6, rfl, rfl, by decide +kernel⟩
theorem f_X6_12 : FL RX6 12 5 2 false (.object "ChaletRule$Told") := ⟨RX6, TX6, 16, tyX6, rfl, by decide, inX6, (in1 141 (by decide +kernel) rfl), tyX6_ok, nmX6, rfl, rfl, by decide +kernel⟩
theorem f_X10_342 : FL RX10 342 5 2 false (.object "ChaletRule$Told") := ⟨RX6, TX6, 16, tyX6, rfl, by decide, inX6, (in1 142 (by decide +kernel) rfl), tyX6_ok, nmX6, rfl, rfl, by decide +kernel⟩
theorem f_X6_18 : FL RX6 18 5 3 true (.array .byte) := ⟨RX6, TX6, 16, tyX6, rfl, by decide, inX6, (in1 143 (by decide +kernel) rfl), tyX6_ok, nmX6, rfl, rfl, by decide +kernel⟩
theorem f_X6_40 : FL RX6 40 5 4 false .int := ⟨RX6, TX6, 16, tyX6, rfl, by decide, inX6, (in1 144 (by decide +kernel) rfl), tyX6_ok, nmX6, rfl, rfl, by decide +kernel⟩
theorem f_X6_46 : FL RX6 46 5 5 false .int := ⟨RX6, TX6, 16, tyX6, rfl, by decide, inX6, (in1 145 (by decide +kernel) rfl), tyX6_ok, nmX6, rfl, rfl, by decide +kernel⟩
theorem f_X6_69 : FL RX6 69 5 6 false .int := ⟨RX6, TX6, 16, tyX6, rfl, by decide, inX6, (in1 146 (by decide +kernel) rfl), tyX6_ok, nmX6, rfl, rfl, by decide +kernel⟩
theorem f_X6_216 : FL RX6 216 5 7 false .int := ⟨RX6, TX6, 16, tyX6, rfl, by decide, inX6, (in1 147 (by decide +kernel) rfl), tyX6_ok, nmX6, rfl, rfl, by decide +kernel⟩
theorem f_X6_238 : FL RX6 238 5 8 false .long := ⟨RX6, TX6, 16, tyX6, rfl, by decide, inX6, (in1 148 (by decide +kernel) rfl), tyX6_ok, nmX6, rfl, rfl, by decide +kernel⟩
theorem f_X6_147 : FL RX6 147 5 9 false .int := ⟨RX6, TX6, 16, tyX6, rfl, by decide, inX6, (in1 149 (by decide +kernel) rfl), tyX6_ok, nmX6, rfl, rfl, by decide +kernel⟩
theorem f_X6_55 : FL RX6 55 5 10 false .boolean := ⟨RX6, TX6, 16, tyX6, rfl, by decide, inX6, (in1 150 (by decide +kernel) rfl), tyX6_ok, nmX6, rfl, rfl, by decide +kernel⟩
theorem f_X6_204 : FL RX6 204 5 11 false .int := ⟨RX6, TX6, 16, tyX6, rfl, by decide, inX6, (in1 151 (by decide +kernel) rfl), tyX6_ok, nmX6, rfl, rfl, by decide +kernel⟩
theorem f_X6_22 : FL RX6 22 5 12 true (.array .long) := ⟨RX6, TX6, 16, tyX6, rfl, by decide, inX6, (in1 152 (by decide +kernel) rfl), tyX6_ok, nmX6, rfl, rfl, by decide +kernel⟩
theorem f_X6_26 : FL RX6 26 5 13 true (.array .int) := ⟨RX6, TX6, 16, tyX6, rfl, by decide, inX6, (in1 153 (by decide +kernel) rfl), tyX6_ok, nmX6, rfl, rfl, by decide +kernel⟩
theorem f_X6_59 : FL RX6 59 5 14 false .int := ⟨RX6, TX6, 16, tyX6, rfl, by decide, inX6, (in1 154 (by decide +kernel) rfl), tyX6_ok, nmX6, rfl, rfl, by decide +kernel⟩
theorem f_X0_9 : FL RX0 9 0 0 false .int := ⟨RX0, TX0, 9, tyX0, rfl, by decide, inX0, (in1 198 (by decide +kernel) rfl), tyX0_ok, nmX0, rfl, rfl, by decide +kernel⟩
theorem f_X3_31 : FL RX3 31 0 0 false .int := ⟨RX0, TX0, 9, tyX0, rfl, by decide, inX0, (in1 199 (by decide +kernel) rfl), tyX0_ok, nmX0, rfl, rfl, by decide +kernel⟩
theorem f_X2_67 : FL RX2 67 0 0 false .int := ⟨RX0, TX0, 9, tyX0, rfl, by decide, inX0, (in1 200 (by decide +kernel) rfl), tyX0_ok, nmX0, rfl, rfl, by decide +kernel⟩
theorem f_X10_117 : FL RX10 117 0 0 false .int := ⟨RX0, TX0, 9, tyX0, rfl, by decide, inX0, (in1 201 (by decide +kernel) rfl), tyX0_ok, nmX0, rfl, rfl, by decide +kernel⟩
theorem f_X9_115 : FL RX9 115 0 0 false .int := ⟨RX0, TX0, 9, tyX0, rfl, by decide, inX0, (in1 202 (by decide +kernel) rfl), tyX0_ok, nmX0, rfl, rfl, by decide +kernel⟩
theorem f_X0_15 : FL RX0 15 0 1 false .int := ⟨RX0, TX0, 9, tyX0, rfl, by decide, inX0, (in1 203 (by decide +kernel) rfl), tyX0_ok, nmX0, rfl, rfl, by decide +kernel⟩
theorem f_X2_70 : FL RX2 70 0 1 false .int := ⟨RX0, TX0, 9, tyX0, rfl, by decide, inX0, (in1 204 (by decide +kernel) rfl), tyX0_ok, nmX0, rfl, rfl, by decide +kernel⟩
theorem f_X10_120 : FL RX10 120 0 1 false .int := ⟨RX0, TX0, 9, tyX0, rfl, by decide, inX0, (in1 205 (by decide +kernel) rfl), tyX0_ok, nmX0, rfl, rfl, by decide +kernel⟩
theorem f_X0_18 : FL RX0 18 0 2 false .int := ⟨RX0, TX0, 9, tyX0, rfl, by decide, inX0, (in1 206 (by decide +kernel) rfl), tyX0_ok, nmX0, rfl, rfl, by decide +kernel⟩
theorem f_X0_21 : FL RX0 21 0 3 false .int := ⟨RX0, TX0, 9, tyX0, rfl, by decide, inX0, (in1 207 (by decide +kernel) rfl), tyX0_ok, nmX0, rfl, rfl, by decide +kernel⟩
theorem f_X10_127 : FL RX10 127 0 3 false .int := ⟨RX0, TX0, 9, tyX0, rfl, by decide, inX0, (in1 208 (by decide +kernel) rfl), tyX0_ok, nmX0, rfl, rfl, by decide +kernel⟩
theorem f_X0_24 : FL RX0 24 0 4 false .int := ⟨RX0, TX0, 9, tyX0, rfl, by decide, inX0, (in1 209 (by decide +kernel) rfl), tyX0_ok, nmX0, rfl, rfl, by decide +kernel⟩
theorem f_X0_27 : FL RX0 27 0 5 false .int := ⟨RX0, TX0, 9, tyX0, rfl, by decide, inX0, (in1 210 (by decide +kernel) rfl), tyX0_ok, nmX0, rfl, rfl, by decide +kernel⟩
theorem f_X2_54 : FL RX2 54 0 5 false .int := ⟨RX0, TX0, 9, tyX0, rfl, by decide, inX0, (in1 211 (by decide +kernel) rfl), tyX0_ok, nmX0, rfl, rfl, by decide +kernel⟩
theorem f_X3_60 : FL RX3 60 0 5 false .int := ⟨RX0, TX0, 9, tyX0, rfl, by decide, inX0, (in1 212 (by decide +kernel) rfl), tyX0_ok, nmX0, rfl, rfl, by decide +kernel⟩
theorem f_X10_130 : FL RX10 130 0 5 false .int := ⟨RX0, TX0, 9, tyX0, rfl, by decide, inX0, (in1 213 (by decide +kernel) rfl), tyX0_ok, nmX0, rfl, rfl, by decide +kernel⟩
theorem f_X0_30 : FL RX0 30 0 6 false .int := ⟨RX0, TX0, 9, tyX0, rfl, by decide, inX0, (in1 214 (by decide +kernel) rfl), tyX0_ok, nmX0, rfl, rfl, by decide +kernel⟩
theorem f_X2_42 : FL RX2 42 0 6 false .int := ⟨RX0, TX0, 9, tyX0, rfl, by decide, inX0, (in1 215 (by decide +kernel) rfl), tyX0_ok, nmX0, rfl, rfl, by decide +kernel⟩
theorem f_X8_68 : FL RX8 68 0 6 false .int := ⟨RX0, TX0, 9, tyX0, rfl, by decide, inX0, (in1 216 (by decide +kernel) rfl), tyX0_ok, nmX0, rfl, rfl, by decide +kernel⟩
theorem f_X9_93 : FL RX9 93 0 6 false .int := ⟨RX0, TX0, 9, tyX0, rfl, by decide, inX0, (in1 217 (by decide +kernel) rfl), tyX0_ok, nmX0, rfl, rfl, by decide +kernel⟩
theorem f_X10_179 : FL RX10 179 0 6 false .int := ⟨RX0, TX0, 9, tyX0, rfl, by decide, inX0, (in1 218 (by decide +kernel) rfl), tyX0_ok, nmX0, rfl, rfl, by decide +kernel⟩
theorem f_X0_33 : FL RX0 33 0 7 false .int := ⟨RX0, TX0, 9, tyX0, rfl, by decide, inX0, (in1 219 (by decide +kernel) rfl), tyX0_ok, nmX0, rfl, rfl, by decide +kernel⟩
theorem f_X0_36 : FL RX0 36 0 8 false .int := ⟨RX0, TX0, 9, tyX0, rfl, by decide, inX0, (in1 220 (by decide +kernel) rfl), tyX0_ok, nmX0, rfl, rfl, by decide +kernel⟩
theorem f_X5_21 : FL RX5 21 4 0 false .int := ⟨RX5, TX5, 5, tyX5, rfl, by decide, inX5, (in2 9 (by decide +kernel) rfl), tyX5_ok, nmX5, rfl, rfl, by decide +kernel⟩
theorem f_X10_333 : FL RX10 333 4 0 false .int := ⟨RX5, TX5, 5, tyX5, rfl, by decide, inX5, (in2 10 (by decide +kernel) rfl), tyX5_ok, nmX5, rfl, rfl, by decide +kernel⟩
theorem f_X5_25 : FL RX5 25 4 1 false .int := ⟨RX5, TX5, 5, tyX5, rfl, by decide, inX5, (in2 11 (by decide +kernel) rfl), tyX5_ok, nmX5, rfl, rfl, by decide +kernel⟩
theorem f_X10_336 : FL RX10 336 4 1 false .int := ⟨RX5, TX5, 5, tyX5, rfl, by decide, inX5, (in2 12 (by decide +kernel) rfl), tyX5_ok, nmX5, rfl, rfl, by decide +kernel⟩
theorem f_X5_28 : FL RX5 28 4 2 false .int := ⟨RX5, TX5, 5, tyX5, rfl, by decide, inX5, (in2 13 (by decide +kernel) rfl), tyX5_ok, nmX5, rfl, rfl, by decide +kernel⟩
theorem f_X5_13 : FL RX5 13 4 3 true (.array (.object "ChaletRule$Beam")) := ⟨RX5, TX5, 5, tyX5, rfl, by decide, inX5, (in2 14 (by decide +kernel) rfl), tyX5_ok, nmX5, rfl, rfl, by decide +kernel⟩
theorem f_X5_17 : FL RX5 17 4 4 true (.array (.object "ChaletRule$Beam")) := ⟨RX5, TX5, 5, tyX5, rfl, by decide, inX5, (in2 15 (by decide +kernel) rfl), tyX5_ok, nmX5, rfl, rfl, by decide +kernel⟩
theorem f_X2_14 : FL RX2 14 1 0 true (.object "ChaletRule$Beam") := ⟨RX2, TX2, 2, tyX2, rfl, by decide, inX2, (in2 35 (by decide +kernel) rfl), tyX2_ok, nmX2, rfl, rfl, by decide +kernel⟩
theorem f_X2_18 : FL RX2 18 1 1 true (.array .int) := ⟨RX2, TX2, 2, tyX2, rfl, by decide, inX2, (in2 36 (by decide +kernel) rfl), tyX2_ok, nmX2, rfl, rfl, by decide +kernel⟩
theorem f_X9_39 : FL RX9 39 8 0 false .int := ⟨RX9, TX9, 5, tyX9, rfl, by decide, inX9, (in2 50 (by decide +kernel) rfl), tyX9_ok, nmX9, rfl, rfl, by decide +kernel⟩
theorem f_X10_196 : FL RX10 196 8 0 false .int := ⟨RX9, TX9, 5, tyX9, rfl, by decide, inX9, (in2 51 (by decide +kernel) rfl), tyX9_ok, nmX9, rfl, rfl, by decide +kernel⟩
theorem f_X9_44 : FL RX9 44 8 1 false .int := ⟨RX9, TX9, 5, tyX9, rfl, by decide, inX9, (in2 52 (by decide +kernel) rfl), tyX9_ok, nmX9, rfl, rfl, by decide +kernel⟩
theorem f_X10_199 : FL RX10 199 8 1 false .int := ⟨RX9, TX9, 5, tyX9, rfl, by decide, inX9, (in2 53 (by decide +kernel) rfl), tyX9_ok, nmX9, rfl, rfl, by decide +kernel⟩
theorem f_X9_11 : FL RX9 11 8 2 true (.array .int) := ⟨RX9, TX9, 5, tyX9, rfl, by decide, inX9, (in2 54 (by decide +kernel) rfl), tyX9_ok, nmX9, rfl, rfl, by decide +kernel⟩
theorem f_X9_17 : FL RX9 17 8 3 true (.array .int) := ⟨RX9, TX9, 5, tyX9, rfl, by decide, inX9, (in2 55 (by decide +kernel) rfl), tyX9_ok, nmX9, rfl, rfl, by decide +kernel⟩
theorem f_X9_22 : FL RX9 22 8 4 true (.array (.object "ChaletRule$Beam")) := ⟨RX9, TX9, 5, tyX9, rfl, by decide, inX9, (in2 56 (by decide +kernel) rfl), tyX9_ok, nmX9, rfl, rfl, by decide +kernel⟩
theorem f_X4_32 : FL RX4 32 3 0 false .int := ⟨RX4, TX4, 8, tyX4, rfl, by decide, inX4, (in2 76 (by decide +kernel) rfl), tyX4_ok, nmX4, rfl, rfl, by decide +kernel⟩
theorem f_X10_206 : FL RX10 206 3 0 false .int := ⟨RX4, TX4, 8, tyX4, rfl, by decide, inX4, (in2 77 (by decide +kernel) rfl), tyX4_ok, nmX4, rfl, rfl, by decide +kernel⟩
theorem f_X4_44 : FL RX4 44 3 1 false .int := ⟨RX4, TX4, 8, tyX4, rfl, by decide, inX4, (in2 78 (by decide +kernel) rfl), tyX4_ok, nmX4, rfl, rfl, by decide +kernel⟩
theorem f_X10_225 : FL RX10 225 3 1 false .int := ⟨RX4, TX4, 8, tyX4, rfl, by decide, inX4, (in2 79 (by decide +kernel) rfl), tyX4_ok, nmX4, rfl, rfl, by decide +kernel⟩
theorem f_X4_47 : FL RX4 47 3 2 false .int := ⟨RX4, TX4, 8, tyX4, rfl, by decide, inX4, (in2 80 (by decide +kernel) rfl), tyX4_ok, nmX4, rfl, rfl, by decide +kernel⟩
theorem f_X10_228 : FL RX10 228 3 2 false .int := ⟨RX4, TX4, 8, tyX4, rfl, by decide, inX4, (in2 81 (by decide +kernel) rfl), tyX4_ok, nmX4, rfl, rfl, by decide +kernel⟩
theorem f_X4_11 : FL RX4 11 3 3 true (.array .int) := ⟨RX4, TX4, 8, tyX4, rfl, by decide, inX4, (in2 82 (by decide +kernel) rfl), tyX4_ok, nmX4, rfl, rfl, by decide +kernel⟩
theorem f_X4_28 : FL RX4 28 3 4 false .boolean := ⟨RX4, TX4, 8, tyX4, rfl, by decide, inX4, (in2 83 (by decide +kernel) rfl), tyX4_ok, nmX4, rfl, rfl, by decide +kernel⟩
theorem f_X4_18 : FL RX4 18 3 5 true (.object "ChaletRule$Beam") := ⟨RX4, TX4, 8, tyX4, rfl, by decide, inX4, (in2 84 (by decide +kernel) rfl), tyX4_ok, nmX4, rfl, rfl, by decide +kernel⟩
theorem f_X4_22 : FL RX4 22 3 6 true (.array .int) := ⟨RX4, TX4, 8, tyX4, rfl, by decide, inX4, (in2 85 (by decide +kernel) rfl), tyX4_ok, nmX4, rfl, rfl, by decide +kernel⟩
theorem f_X4_25 : FL RX4 25 3 7 true (.array .int) := ⟨RX4, TX4, 8, tyX4, rfl, by decide, inX4, (in2 86 (by decide +kernel) rfl), tyX4_ok, nmX4, rfl, rfl, by decide +kernel⟩
theorem f_X3_18 : FL RX3 18 2 0 false .long := ⟨RX3, TX3, 4, tyX3, rfl, by decide, inX3, (in2 112 (by decide +kernel) rfl), tyX3_ok, nmX3, rfl, rfl, by decide +kernel⟩
theorem f_X10_272 : FL RX10 272 2 0 false .long := ⟨RX3, TX3, 4, tyX3, rfl, by decide, inX3, (in2 113 (by decide +kernel) rfl), tyX3_ok, nmX3, rfl, rfl, by decide +kernel⟩
theorem f_X3_22 : FL RX3 22 2 1 false .long := ⟨RX3, TX3, 4, tyX3, rfl, by decide, inX3, (in2 114 (by decide +kernel) rfl), tyX3_ok, nmX3, rfl, rfl, by decide +kernel⟩
theorem f_X10_268 : FL RX10 268 2 1 false .long := ⟨RX3, TX3, 4, tyX3, rfl, by decide, inX3, (in2 115 (by decide +kernel) rfl), tyX3_ok, nmX3, rfl, rfl, by decide +kernel⟩
theorem f_X3_57 : FL RX3 57 2 2 false .int := ⟨RX3, TX3, 4, tyX3, rfl, by decide, inX3, (in2 116 (by decide +kernel) rfl), tyX3_ok, nmX3, rfl, rfl, by decide +kernel⟩
theorem f_X10_282 : FL RX10 282 2 2 false .int := ⟨RX3, TX3, 4, tyX3, rfl, by decide, inX3, (in2 117 (by decide +kernel) rfl), tyX3_ok, nmX3, rfl, rfl, by decide +kernel⟩
theorem f_X3_12 : FL RX3 12 2 3 true (.object "ChaletRule$Beam") := ⟨RX3, TX3, 4, tyX3, rfl, by decide, inX3, (in2 118 (by decide +kernel) rfl), tyX3_ok, nmX3, rfl, rfl, by decide +kernel⟩
theorem f_X10_279 : FL RX10 279 2 3 true (.object "ChaletRule$Beam") := ⟨RX3, TX3, 4, tyX3, rfl, by decide, inX3, (in2 119 (by decide +kernel) rfl), tyX3_ok, nmX3, rfl, rfl, by decide +kernel⟩
theorem f_X10_12 : FL RX10 12 9 2 true (.object "ChaletRule$Reader") := ⟨RX10, TX10, 12, tyX10, rfl, by decide, inX10, (in2 129 (by decide +kernel) rfl), tyX10_ok, nmX10, rfl, rfl, by decide +kernel⟩
theorem f_X10_19 : FL RX10 19 9 3 false (.object "ChaletRule$Told") := ⟨RX10, TX10, 12, tyX10, rfl, by decide, inX10, (in2 130 (by decide +kernel) rfl), tyX10_ok, nmX10, rfl, rfl, by decide +kernel⟩
theorem f_X10_207 : FL RX10 207 9 4 false .boolean := ⟨RX10, TX10, 12, tyX10, rfl, by decide, inX10, (in2 131 (by decide +kernel) rfl), tyX10_ok, nmX10, rfl, rfl, by decide +kernel⟩
theorem f_X10_91 : FL RX10 91 9 5 false .int := ⟨RX10, TX10, 12, tyX10, rfl, by decide, inX10, (in2 132 (by decide +kernel) rfl), tyX10_ok, nmX10, rfl, rfl, by decide +kernel⟩
theorem f_X10_95 : FL RX10 95 9 6 false .int := ⟨RX10, TX10, 12, tyX10, rfl, by decide, inX10, (in2 133 (by decide +kernel) rfl), tyX10_ok, nmX10, rfl, rfl, by decide +kernel⟩
theorem f_X10_101 : FL RX10 101 9 7 false .int := ⟨RX10, TX10, 12, tyX10, rfl, by decide, inX10, (in2 134 (by decide +kernel) rfl), tyX10_ok, nmX10, rfl, rfl, by decide +kernel⟩
theorem f_X10_26 : FL RX10 26 9 8 true (.object "ChaletRule$Beam") := ⟨RX10, TX10, 12, tyX10, rfl, by decide, inX10, (in2 135 (by decide +kernel) rfl), tyX10_ok, nmX10, rfl, rfl, by decide +kernel⟩
theorem f_X10_33 : FL RX10 33 9 9 true (.object "ChaletRule$Past") := ⟨RX10, TX10, 12, tyX10, rfl, by decide, inX10, (in2 136 (by decide +kernel) rfl), tyX10_ok, nmX10, rfl, rfl, by decide +kernel⟩
theorem f_X10_40 : FL RX10 40 9 10 true (.object "ChaletRule$Forecast") := ⟨RX10, TX10, 12, tyX10, rfl, by decide, inX10, (in2 137 (by decide +kernel) rfl), tyX10_ok, nmX10, rfl, rfl, by decide +kernel⟩
theorem f_X10_47 : FL RX10 47 9 11 true (.object "ChaletRule$VentRows") := ⟨RX10, TX10, 12, tyX10, rfl, by decide, inX10, (in2 138 (by decide +kernel) rfl), tyX10_ok, nmX10, rfl, rfl, by decide +kernel⟩
theorem f_X10_54 : FL RX10 54 9 0 true (.object "ChaletRule$Makes") := ⟨RX10, TX10, 12, tyX10, rfl, by decide, inX10, (in2 139 (by decide +kernel) rfl), tyX10_ok, nmX10, rfl, rfl, by decide +kernel⟩
theorem f_X10_61 : FL RX10 61 9 1 true (.object "ChaletRule$Gusts") := ⟨RX10, TX10, 12, tyX10, rfl, by decide, inX10, (in2 140 (by decide +kernel) rfl), tyX10_ok, nmX10, rfl, rfl, by decide +kernel⟩
theorem f_X11_60 : FL RX11 60 10 0 false .int := ⟨RX11, TX11, 40, tyX11, rfl, by decide, inX11, (in5 229 (by decide +kernel) rfl), tyX11_ok, nmX11, rfl, rfl, by decide +kernel⟩
theorem f_X11_7 : FL RX11 7 10 1 true (.array .int) := ⟨RX11, TX11, 40, tyX11, rfl, by decide, inX11, (in5 230 (by decide +kernel) rfl), tyX11_ok, nmX11, rfl, rfl, by decide +kernel⟩
theorem f_X11_66 : FL RX11 66 10 2 false .int := ⟨RX11, TX11, 40, tyX11, rfl, by decide, inX11, (in5 231 (by decide +kernel) rfl), tyX11_ok, nmX11, rfl, rfl, by decide +kernel⟩
theorem f_X11_69 : FL RX11 69 10 3 false .int := ⟨RX11, TX11, 40, tyX11, rfl, by decide, inX11, (in5 232 (by decide +kernel) rfl), tyX11_ok, nmX11, rfl, rfl, by decide +kernel⟩
theorem f_X11_79 : FL RX11 79 10 4 false .int := ⟨RX11, TX11, 40, tyX11, rfl, by decide, inX11, (in5 233 (by decide +kernel) rfl), tyX11_ok, nmX11, rfl, rfl, by decide +kernel⟩
theorem f_X11_72 : FL RX11 72 10 5 false .int := ⟨RX11, TX11, 40, tyX11, rfl, by decide, inX11, (in5 234 (by decide +kernel) rfl), tyX11_ok, nmX11, rfl, rfl, by decide +kernel⟩
theorem f_X11_88 : FL RX11 88 10 6 false .int := ⟨RX11, TX11, 40, tyX11, rfl, by decide, inX11, (in5 235 (by decide +kernel) rfl), tyX11_ok, nmX11, rfl, rfl, by decide +kernel⟩
theorem f_X11_85 : FL RX11 85 10 7 false .int := ⟨RX11, TX11, 40, tyX11, rfl, by decide, inX11, (in5 236 (by decide +kernel) rfl), tyX11_ok, nmX11, rfl, rfl, by decide +kernel⟩
theorem f_X11_82 : FL RX11 82 10 8 false .int := ⟨RX11, TX11, 40, tyX11, rfl, by decide, inX11, (in5 237 (by decide +kernel) rfl), tyX11_ok, nmX11, rfl, rfl, by decide +kernel⟩
theorem f_X11_102 : FL RX11 102 10 9 false .int := ⟨RX11, TX11, 40, tyX11, rfl, by decide, inX11, (in5 238 (by decide +kernel) rfl), tyX11_ok, nmX11, rfl, rfl, by decide +kernel⟩
theorem f_X11_13 : FL RX11 13 10 10 false .int := ⟨RX11, TX11, 40, tyX11, rfl, by decide, inX11, (in5 239 (by decide +kernel) rfl), tyX11_ok, nmX11, rfl, rfl, by decide +kernel⟩
theorem f_X11_63 : FL RX11 63 10 11 false .int := ⟨RX11, TX11, 40, tyX11, rfl, by decide, inX11, (in6 0 (by decide +kernel) rfl), tyX11_ok, nmX11, rfl, rfl, by decide +kernel⟩
theorem f_X11_17 : FL RX11 17 10 12 true (.array .int) := ⟨RX11, TX11, 40, tyX11, rfl, by decide, inX11, (in6 1 (by decide +kernel) rfl), tyX11_ok, nmX11, rfl, rfl, by decide +kernel⟩
theorem f_X11_98 : FL RX11 98 10 13 false .boolean := ⟨RX11, TX11, 40, tyX11, rfl, by decide, inX11, (in6 2 (by decide +kernel) rfl), tyX11_ok, nmX11, rfl, rfl, by decide +kernel⟩
theorem f_X11_185 : FL RX11 185 10 14 false .boolean := ⟨RX11, TX11, 40, tyX11, rfl, by decide, inX11, (in6 3 (by decide +kernel) rfl), tyX11_ok, nmX11, rfl, rfl, by decide +kernel⟩
theorem f_X11_20 : FL RX11 20 10 15 true (.array .int) := ⟨RX11, TX11, 40, tyX11, rfl, by decide, inX11, (in6 4 (by decide +kernel) rfl), tyX11_ok, nmX11, rfl, rfl, by decide +kernel⟩
theorem f_X11_23 : FL RX11 23 10 16 true (.array .int) := ⟨RX11, TX11, 40, tyX11, rfl, by decide, inX11, (in6 5 (by decide +kernel) rfl), tyX11_ok, nmX11, rfl, rfl, by decide +kernel⟩
theorem f_X11_26 : FL RX11 26 10 17 true (.array .int) := ⟨RX11, TX11, 40, tyX11, rfl, by decide, inX11, (in6 6 (by decide +kernel) rfl), tyX11_ok, nmX11, rfl, rfl, by decide +kernel⟩
theorem f_X11_29 : FL RX11 29 10 18 true (.array .int) := ⟨RX11, TX11, 40, tyX11, rfl, by decide, inX11, (in6 7 (by decide +kernel) rfl), tyX11_ok, nmX11, rfl, rfl, by decide +kernel⟩
theorem f_X11_32 : FL RX11 32 10 19 true (.array .int) := ⟨RX11, TX11, 40, tyX11, rfl, by decide, inX11, (in6 8 (by decide +kernel) rfl), tyX11_ok, nmX11, rfl, rfl, by decide +kernel⟩
theorem f_X11_188 : FL RX11 188 10 20 false .int := ⟨RX11, TX11, 40, tyX11, rfl, by decide, inX11, (in6 9 (by decide +kernel) rfl), tyX11_ok, nmX11, rfl, rfl, by decide +kernel⟩
theorem f_X11_191 : FL RX11 191 10 21 false .int := ⟨RX11, TX11, 40, tyX11, rfl, by decide, inX11, (in6 10 (by decide +kernel) rfl), tyX11_ok, nmX11, rfl, rfl, by decide +kernel⟩
theorem f_X11_35 : FL RX11 35 10 22 true (.array .int) := ⟨RX11, TX11, 40, tyX11, rfl, by decide, inX11, (in6 11 (by decide +kernel) rfl), tyX11_ok, nmX11, rfl, rfl, by decide +kernel⟩
theorem f_X11_38 : FL RX11 38 10 23 true (.array .int) := ⟨RX11, TX11, 40, tyX11, rfl, by decide, inX11, (in6 12 (by decide +kernel) rfl), tyX11_ok, nmX11, rfl, rfl, by decide +kernel⟩
theorem f_X11_305 : FL RX11 305 10 24 false .int := ⟨RX11, TX11, 40, tyX11, rfl, by decide, inX11, (in6 13 (by decide +kernel) rfl), tyX11_ok, nmX11, rfl, rfl, by decide +kernel⟩
theorem f_X11_324 : FL RX11 324 10 25 false .int := ⟨RX11, TX11, 40, tyX11, rfl, by decide, inX11, (in6 14 (by decide +kernel) rfl), tyX11_ok, nmX11, rfl, rfl, by decide +kernel⟩
theorem f_X11_41 : FL RX11 41 10 26 true (.array .int) := ⟨RX11, TX11, 40, tyX11, rfl, by decide, inX11, (in6 15 (by decide +kernel) rfl), tyX11_ok, nmX11, rfl, rfl, by decide +kernel⟩
theorem f_X11_44 : FL RX11 44 10 27 true (.array .int) := ⟨RX11, TX11, 40, tyX11, rfl, by decide, inX11, (in6 16 (by decide +kernel) rfl), tyX11_ok, nmX11, rfl, rfl, by decide +kernel⟩
theorem f_X11_336 : FL RX11 336 10 28 false .int := ⟨RX11, TX11, 40, tyX11, rfl, by decide, inX11, (in6 17 (by decide +kernel) rfl), tyX11_ok, nmX11, rfl, rfl, by decide +kernel⟩
theorem f_X11_339 : FL RX11 339 10 29 false .int := ⟨RX11, TX11, 40, tyX11, rfl, by decide, inX11, (in6 18 (by decide +kernel) rfl), tyX11_ok, nmX11, rfl, rfl, by decide +kernel⟩
theorem f_X11_342 : FL RX11 342 10 30 false .int := ⟨RX11, TX11, 40, tyX11, rfl, by decide, inX11, (in6 19 (by decide +kernel) rfl), tyX11_ok, nmX11, rfl, rfl, by decide +kernel⟩
theorem f_X11_354 : FL RX11 354 10 31 false .int := ⟨RX11, TX11, 40, tyX11, rfl, by decide, inX11, (in6 20 (by decide +kernel) rfl), tyX11_ok, nmX11, rfl, rfl, by decide +kernel⟩
theorem f_X11_47 : FL RX11 47 10 32 true (.array .int) := ⟨RX11, TX11, 40, tyX11, rfl, by decide, inX11, (in6 21 (by decide +kernel) rfl), tyX11_ok, nmX11, rfl, rfl, by decide +kernel⟩
theorem f_X11_50 : FL RX11 50 10 33 true (.array .int) := ⟨RX11, TX11, 40, tyX11, rfl, by decide, inX11, (in6 22 (by decide +kernel) rfl), tyX11_ok, nmX11, rfl, rfl, by decide +kernel⟩
theorem f_X11_53 : FL RX11 53 10 34 false .int := ⟨RX11, TX11, 40, tyX11, rfl, by decide, inX11, (in6 23 (by decide +kernel) rfl), tyX11_ok, nmX11, rfl, rfl, by decide +kernel⟩
theorem f_X11_367 : FL RX11 367 10 35 false .int := ⟨RX11, TX11, 40, tyX11, rfl, by decide, inX11, (in6 24 (by decide +kernel) rfl), tyX11_ok, nmX11, rfl, rfl, by decide +kernel⟩
theorem f_X11_56 : FL RX11 56 10 36 true (.array .long) := ⟨RX11, TX11, 40, tyX11, rfl, by decide, inX11, (in6 25 (by decide +kernel) rfl), tyX11_ok, nmX11, rfl, rfl, by decide +kernel⟩
theorem f_X11_382 : FL RX11 382 10 37 false .long := ⟨RX11, TX11, 40, tyX11, rfl, by decide, inX11, (in6 26 (by decide +kernel) rfl), tyX11_ok, nmX11, rfl, rfl, by decide +kernel⟩
theorem f_X11_386 : FL RX11 386 10 38 false .long := ⟨RX11, TX11, 40, tyX11, rfl, by decide, inX11, (in6 27 (by decide +kernel) rfl), tyX11_ok, nmX11, rfl, rfl, by decide +kernel⟩
theorem f_X11_401 : FL RX11 401 10 39 false .int := ⟨RX11, TX11, 40, tyX11, rfl, by decide, inX11, (in6 28 (by decide +kernel) rfl), tyX11_ok, nmX11, rfl, rfl, by decide +kernel⟩
/-- a method's own words -/
def MW (m : MI) (n : Nat) : Prop := cw m ∈ BIG ∧ Cond.initialized m.1.cls ∈ BIG ∧ (m.1.cls ≠ "java/lang/invoke/MethodHandle" ∧ m.1.cls ≠ "java/lang/invoke/VarHandle") ∧ (parseMethodDescriptor m.1.desc).map (fun d => d.parameters.length) = some n
/-- .. of an instance method of the class ci -/
def MV (m : MI) (ci n : Nat) : Prop := MW m n ∧ Cond.instanceMethod m.1 ∈ BIG ∧ Cond.selects m.1.cls m.1 m.1 ∈ BIG ∧ ∃ (T : u_T) (N : Nat), classes[ci]? = some (m.1.cls, T, N)
def MSt (m : MI) (n : Nat) : Prop := MW m n ∧ Cond.static m.1 ∈ BIG
def MIn (m : MI) (n : Nat) : Prop := MW m n ∧ Cond.instanceMethod m.1 ∈ BIG ∧ m.1.name = "<init>"
/-- a call's link -/
def ML (own : String) (idx : Nat) (m : MI) : Prop := Cond.methodLink own idx m.1 ∈ BIG
theorem w_X0_init : MIn mX0_init 0 := ⟨⟨(in1 196 (by decide +kernel) rfl), (in1 5 (by decide +kernel) rfl), ⟨by decide +kernel, by decide +kernel⟩, by decide +kernel⟩, (in1 195 (by decide +kernel) rfl), rfl⟩
theorem w_X0_begin : MV mX0_begin 0 3 := ⟨⟨(in3 159 (by decide +kernel) rfl), (in1 5 (by decide +kernel) rfl), ⟨by decide +kernel, by decide +kernel⟩, by decide +kernel⟩, (in3 157 (by decide +kernel) rfl), (in3 158 (by decide +kernel) rfl), TX0, 9, rfl⟩
theorem w_X0_copy : MV mX0_copy 0 1 := ⟨⟨(in3 217 (by decide +kernel) rfl), (in1 5 (by decide +kernel) rfl), ⟨by decide +kernel, by decide +kernel⟩, by decide +kernel⟩, (in3 215 (by decide +kernel) rfl), (in3 216 (by decide +kernel) rfl), TX0, 9, rfl⟩
theorem w_X0_whoIsOut : MV mX0_whoIsOut 0 0 := ⟨⟨(in3 187 (by decide +kernel) rfl), (in1 5 (by decide +kernel) rfl), ⟨by decide +kernel, by decide +kernel⟩, by decide +kernel⟩, (in3 185 (by decide +kernel) rfl), (in3 186 (by decide +kernel) rfl), TX0, 9, rfl⟩
theorem w_X0_isOpen : MV mX0_isOpen 0 1 := ⟨⟨(in3 199 (by decide +kernel) rfl), (in1 5 (by decide +kernel) rfl), ⟨by decide +kernel, by decide +kernel⟩, by decide +kernel⟩, (in3 197 (by decide +kernel) rfl), (in3 198 (by decide +kernel) rfl), TX0, 9, rfl⟩
theorem w_X0_openVent : MV mX0_openVent 0 1 := ⟨⟨(in4 102 (by decide +kernel) rfl), (in1 5 (by decide +kernel) rfl), ⟨by decide +kernel, by decide +kernel⟩, by decide +kernel⟩, (in4 100 (by decide +kernel) rfl), (in4 101 (by decide +kernel) rfl), TX0, 9, rfl⟩
theorem w_X0_pullOfDamp : MSt mX0_pullOfDamp 1 := ⟨⟨(in3 190 (by decide +kernel) rfl), (in1 5 (by decide +kernel) rfl), ⟨by decide +kernel, by decide +kernel⟩, by decide +kernel⟩, (in3 189 (by decide +kernel) rfl)⟩
theorem w_X0_reach : MV mX0_reach 0 1 := ⟨⟨(in4 3 (by decide +kernel) rfl), (in1 5 (by decide +kernel) rfl), ⟨by decide +kernel, by decide +kernel⟩, by decide +kernel⟩, (in4 1 (by decide +kernel) rfl), (in4 2 (by decide +kernel) rfl), TX0, 9, rfl⟩
theorem w_X0_turned : MV mX0_turned 0 2 := ⟨⟨(in3 239 (by decide +kernel) rfl), (in1 5 (by decide +kernel) rfl), ⟨by decide +kernel, by decide +kernel⟩, by decide +kernel⟩, (in3 237 (by decide +kernel) rfl), (in3 238 (by decide +kernel) rfl), TX0, 9, rfl⟩
theorem w_X0_passDay : MV mX0_passDay 0 1 := ⟨⟨(in3 221 (by decide +kernel) rfl), (in1 5 (by decide +kernel) rfl), ⟨by decide +kernel, by decide +kernel⟩, by decide +kernel⟩, (in3 219 (by decide +kernel) rfl), (in3 220 (by decide +kernel) rfl), TX0, 9, rfl⟩
theorem w_X0_noteWeather : MV mX0_noteWeather 0 0 := ⟨⟨(in3 230 (by decide +kernel) rfl), (in1 5 (by decide +kernel) rfl), ⟨by decide +kernel, by decide +kernel⟩, by decide +kernel⟩, (in3 229 (by decide +kernel) rfl), (big_sel (List.mem_of_getElem? (i := 26) (by decide +kernel)) rfl), TX0, 9, rfl⟩
theorem w_X0_had : MV mX0_had 0 2 := ⟨⟨(in4 11 (by decide +kernel) rfl), (in1 5 (by decide +kernel) rfl), ⟨by decide +kernel, by decide +kernel⟩, by decide +kernel⟩, (in4 9 (by decide +kernel) rfl), (in4 10 (by decide +kernel) rfl), TX0, 9, rfl⟩
theorem w_X0_gust : MV mX0_gust 0 0 := ⟨⟨(in5 72 (by decide +kernel) rfl), (in1 5 (by decide +kernel) rfl), ⟨by decide +kernel, by decide +kernel⟩, by decide +kernel⟩, (in5 70 (by decide +kernel) rfl), (in5 71 (by decide +kernel) rfl), TX0, 9, rfl⟩
theorem w_X1_most : MSt mX1_most 3 := ⟨⟨(in5 21 (by decide +kernel) rfl), (in1 18 (by decide +kernel) rfl), ⟨by decide +kernel, by decide +kernel⟩, by decide +kernel⟩, (in5 20 (by decide +kernel) rfl)⟩
theorem w_X1_leastSide : MSt mX1_leastSide 3 := ⟨⟨(in5 24 (by decide +kernel) rfl), (in1 18 (by decide +kernel) rfl), ⟨by decide +kernel, by decide +kernel⟩, by decide +kernel⟩, (in5 23 (by decide +kernel) rfl)⟩
theorem w_X1_acrossFrom : MSt mX1_acrossFrom 4 := ⟨⟨(in5 27 (by decide +kernel) rfl), (in1 18 (by decide +kernel) rfl), ⟨by decide +kernel, by decide +kernel⟩, by decide +kernel⟩, (in5 26 (by decide +kernel) rfl)⟩
theorem w_X1_narrowDitches : MSt mX1_narrowDitches 1 := ⟨⟨(in5 44 (by decide +kernel) rfl), (in1 18 (by decide +kernel) rfl), ⟨by decide +kernel, by decide +kernel⟩, by decide +kernel⟩, (in5 43 (by decide +kernel) rfl)⟩
theorem w_X1_reachedFrom : MSt mX1_reachedFrom 2 := ⟨⟨(in5 52 (by decide +kernel) rfl), (in1 18 (by decide +kernel) rfl), ⟨by decide +kernel, by decide +kernel⟩, by decide +kernel⟩, (in5 51 (by decide +kernel) rfl)⟩
theorem w_X2_init : MIn mX2_init 0 := ⟨⟨(in2 31 (by decide +kernel) rfl), (in1 7 (by decide +kernel) rfl), ⟨by decide +kernel, by decide +kernel⟩, by decide +kernel⟩, (in2 30 (by decide +kernel) rfl), rfl⟩
theorem w_X2_behind : MV mX2_behind 1 3 := ⟨⟨(in3 213 (by decide +kernel) rfl), (in1 7 (by decide +kernel) rfl), ⟨by decide +kernel, by decide +kernel⟩, by decide +kernel⟩, (in3 211 (by decide +kernel) rfl), (in3 212 (by decide +kernel) rfl), TX2, 2, rfl⟩
theorem w_X2_keeps : MV mX2_keeps 1 3 := ⟨⟨(in3 208 (by decide +kernel) rfl), (in1 7 (by decide +kernel) rfl), ⟨by decide +kernel, by decide +kernel⟩, by decide +kernel⟩, (in3 206 (by decide +kernel) rfl), (in3 207 (by decide +kernel) rfl), TX2, 2, rfl⟩
theorem w_X2_daysWith : MV mX2_daysWith 1 4 := ⟨⟨(in4 46 (by decide +kernel) rfl), (in1 7 (by decide +kernel) rfl), ⟨by decide +kernel, by decide +kernel⟩, by decide +kernel⟩, (in4 44 (by decide +kernel) rfl), (in4 45 (by decide +kernel) rfl), TX2, 2, rfl⟩
theorem w_X2_daysUntil : MV mX2_daysUntil 1 3 := ⟨⟨(in4 54 (by decide +kernel) rfl), (in1 7 (by decide +kernel) rfl), ⟨by decide +kernel, by decide +kernel⟩, by decide +kernel⟩, (in4 52 (by decide +kernel) rfl), (in4 53 (by decide +kernel) rfl), TX2, 2, rfl⟩
theorem w_X2_goesRound : MV mX2_goesRound 1 2 := ⟨⟨(in4 63 (by decide +kernel) rfl), (in1 7 (by decide +kernel) rfl), ⟨by decide +kernel, by decide +kernel⟩, by decide +kernel⟩, (in4 61 (by decide +kernel) rfl), (in4 62 (by decide +kernel) rfl), TX2, 2, rfl⟩
theorem w_X3_init : MIn mX3_init 0 := ⟨⟨(in2 108 (by decide +kernel) rfl), (in1 10 (by decide +kernel) rfl), ⟨by decide +kernel, by decide +kernel⟩, by decide +kernel⟩, (in2 107 (by decide +kernel) rfl), rfl⟩
theorem w_X3_weigh : MV mX3_weigh 2 4 := ⟨⟨(in5 61 (by decide +kernel) rfl), (in1 10 (by decide +kernel) rfl), ⟨by decide +kernel, by decide +kernel⟩, by decide +kernel⟩, (in5 59 (by decide +kernel) rfl), (in5 60 (by decide +kernel) rfl), TX3, 4, rfl⟩
theorem w_X3_blow : MV mX3_blow 2 4 := ⟨⟨(in5 66 (by decide +kernel) rfl), (in1 10 (by decide +kernel) rfl), ⟨by decide +kernel, by decide +kernel⟩, by decide +kernel⟩, (in5 65 (by decide +kernel) rfl), (big_sel (List.mem_of_getElem? (i := 39) (by decide +kernel)) rfl), TX3, 4, rfl⟩
theorem w_X3_shorten : MV mX3_shorten 2 0 := ⟨⟨(in5 77 (by decide +kernel) rfl), (in1 10 (by decide +kernel) rfl), ⟨by decide +kernel, by decide +kernel⟩, by decide +kernel⟩, (in5 76 (by decide +kernel) rfl), (big_sel (List.mem_of_getElem? (i := 40) (by decide +kernel)) rfl), TX3, 4, rfl⟩
theorem w_X3_draw : MV mX3_draw 2 4 := ⟨⟨(in5 90 (by decide +kernel) rfl), (in1 10 (by decide +kernel) rfl), ⟨by decide +kernel, by decide +kernel⟩, by decide +kernel⟩, (in5 88 (by decide +kernel) rfl), (in5 89 (by decide +kernel) rfl), TX3, 4, rfl⟩
theorem w_X4_init : MIn mX4_init 0 := ⟨⟨(in2 72 (by decide +kernel) rfl), (in1 9 (by decide +kernel) rfl), ⟨by decide +kernel, by decide +kernel⟩, by decide +kernel⟩, (in2 71 (by decide +kernel) rfl), rfl⟩
theorem w_X4_forget : MV mX4_forget 3 0 := ⟨⟨(in3 167 (by decide +kernel) rfl), (in1 9 (by decide +kernel) rfl), ⟨by decide +kernel, by decide +kernel⟩, by decide +kernel⟩, (in3 165 (by decide +kernel) rfl), (in3 166 (by decide +kernel) rfl), TX4, 8, rfl⟩
theorem w_X4_nameOf : MV mX4_nameOf 3 1 := ⟨⟨(in4 186 (by decide +kernel) rfl), (in1 9 (by decide +kernel) rfl), ⟨by decide +kernel, by decide +kernel⟩, by decide +kernel⟩, (in4 184 (by decide +kernel) rfl), (in4 185 (by decide +kernel) rfl), TX4, 8, rfl⟩
theorem w_X4_bitsOf : MV mX4_bitsOf 3 1 := ⟨⟨(in4 194 (by decide +kernel) rfl), (in1 9 (by decide +kernel) rfl), ⟨by decide +kernel, by decide +kernel⟩, by decide +kernel⟩, (in4 192 (by decide +kernel) rfl), (in4 193 (by decide +kernel) rfl), TX4, 8, rfl⟩
theorem w_X4_onlyOne : MV mX4_onlyOne 3 1 := ⟨⟨(in4 202 (by decide +kernel) rfl), (in1 9 (by decide +kernel) rfl), ⟨by decide +kernel, by decide +kernel⟩, by decide +kernel⟩, (in4 200 (by decide +kernel) rfl), (in4 201 (by decide +kernel) rfl), TX4, 8, rfl⟩
theorem w_X4_chooseDay : MV mX4_chooseDay 3 1 := ⟨⟨(in4 211 (by decide +kernel) rfl), (in1 9 (by decide +kernel) rfl), ⟨by decide +kernel, by decide +kernel⟩, by decide +kernel⟩, (in4 209 (by decide +kernel) rfl), (in4 210 (by decide +kernel) rfl), TX4, 8, rfl⟩
theorem w_X4_firstUnlike : MV mX4_firstUnlike 3 1 := ⟨⟨(in4 233 (by decide +kernel) rfl), (in1 9 (by decide +kernel) rfl), ⟨by decide +kernel, by decide +kernel⟩, by decide +kernel⟩, (in4 231 (by decide +kernel) rfl), (in4 232 (by decide +kernel) rfl), TX4, 8, rfl⟩
theorem w_X4_gather : MV mX4_gather 3 1 := ⟨⟨(in4 166 (by decide +kernel) rfl), (in1 9 (by decide +kernel) rfl), ⟨by decide +kernel, by decide +kernel⟩, by decide +kernel⟩, (in4 164 (by decide +kernel) rfl), (in4 165 (by decide +kernel) rfl), TX4, 8, rfl⟩
theorem w_X4_watch : MV mX4_watch 3 3 := ⟨⟨(in4 170 (by decide +kernel) rfl), (in1 9 (by decide +kernel) rfl), ⟨by decide +kernel, by decide +kernel⟩, by decide +kernel⟩, (in4 169 (by decide +kernel) rfl), (big_sel (List.mem_of_getElem? (i := 35) (by decide +kernel)) rfl), TX4, 8, rfl⟩
theorem w_X4_unlikeSeen : MV mX4_unlikeSeen 3 1 := ⟨⟨(in4 177 (by decide +kernel) rfl), (in1 9 (by decide +kernel) rfl), ⟨by decide +kernel, by decide +kernel⟩, by decide +kernel⟩, (in4 176 (by decide +kernel) rfl), (big_sel (List.mem_of_getElem? (i := 36) (by decide +kernel)) rfl), TX4, 8, rfl⟩
theorem w_X4_countOuts : MV mX4_countOuts 3 1 := ⟨⟨(in4 215 (by decide +kernel) rfl), (in1 9 (by decide +kernel) rfl), ⟨by decide +kernel, by decide +kernel⟩, by decide +kernel⟩, (in4 214 (by decide +kernel) rfl), (big_sel (List.mem_of_getElem? (i := 37) (by decide +kernel)) rfl), TX4, 8, rfl⟩
theorem w_X4_mostOf : MV mX4_mostOf 3 1 := ⟨⟨(in4 220 (by decide +kernel) rfl), (in1 9 (by decide +kernel) rfl), ⟨by decide +kernel, by decide +kernel⟩, by decide +kernel⟩, (in4 219 (by decide +kernel) rfl), (big_sel (List.mem_of_getElem? (i := 38) (by decide +kernel)) rfl), TX4, 8, rfl⟩
theorem w_X5_init : MIn mX5_init 0 := ⟨⟨(in2 4 (by decide +kernel) rfl), (in1 6 (by decide +kernel) rfl), ⟨by decide +kernel, by decide +kernel⟩, by decide +kernel⟩, (in2 3 (by decide +kernel) rfl), rfl⟩
theorem w_X5_forget : MV mX5_forget 4 0 := ⟨⟨(in3 163 (by decide +kernel) rfl), (in1 6 (by decide +kernel) rfl), ⟨by decide +kernel, by decide +kernel⟩, by decide +kernel⟩, (in3 161 (by decide +kernel) rfl), (in3 162 (by decide +kernel) rfl), TX5, 5, rfl⟩
theorem w_X5_keep : MV mX5_keep 4 1 := ⟨⟨(in5 103 (by decide +kernel) rfl), (in1 6 (by decide +kernel) rfl), ⟨by decide +kernel, by decide +kernel⟩, by decide +kernel⟩, (in5 101 (by decide +kernel) rfl), (in5 102 (by decide +kernel) rfl), TX5, 5, rfl⟩
theorem w_X5_takeBack : MV mX5_takeBack 4 1 := ⟨⟨(in5 124 (by decide +kernel) rfl), (in1 6 (by decide +kernel) rfl), ⟨by decide +kernel, by decide +kernel⟩, by decide +kernel⟩, (in5 122 (by decide +kernel) rfl), (in5 123 (by decide +kernel) rfl), TX5, 5, rfl⟩
theorem w_X5_paint : MV mX5_paint 4 1 := ⟨⟨(in5 132 (by decide +kernel) rfl), (in1 6 (by decide +kernel) rfl), ⟨by decide +kernel, by decide +kernel⟩, by decide +kernel⟩, (in5 130 (by decide +kernel) rfl), (in5 131 (by decide +kernel) rfl), TX5, 5, rfl⟩
theorem w_X5_recall : MV mX5_recall 4 2 := ⟨⟨(in5 140 (by decide +kernel) rfl), (in1 6 (by decide +kernel) rfl), ⟨by decide +kernel, by decide +kernel⟩, by decide +kernel⟩, (in5 138 (by decide +kernel) rfl), (in5 139 (by decide +kernel) rfl), TX5, 5, rfl⟩
theorem w_X6_init : MIn mX6_init 0 := ⟨⟨(in1 35 (by decide +kernel) rfl), (in1 2 (by decide +kernel) rfl), ⟨by decide +kernel, by decide +kernel⟩, by decide +kernel⟩, (in1 34 (by decide +kernel) rfl), rfl⟩
theorem w_X6_putBytes : MV mX6_putBytes 5 1 := ⟨⟨(in2 173 (by decide +kernel) rfl), (in1 2 (by decide +kernel) rfl), ⟨by decide +kernel, by decide +kernel⟩, by decide +kernel⟩, (in2 171 (by decide +kernel) rfl), (in2 172 (by decide +kernel) rfl), TX6, 16, rfl⟩
theorem w_X6_begin : MV mX6_begin 5 1 := ⟨⟨(in2 188 (by decide +kernel) rfl), (in1 2 (by decide +kernel) rfl), ⟨by decide +kernel, by decide +kernel⟩, by decide +kernel⟩, (in2 186 (by decide +kernel) rfl), (in2 187 (by decide +kernel) rfl), TX6, 16, rfl⟩
theorem w_X6_readLines : MV mX6_readLines 5 0 := ⟨⟨(in2 199 (by decide +kernel) rfl), (in1 2 (by decide +kernel) rfl), ⟨by decide +kernel, by decide +kernel⟩, by decide +kernel⟩, (in2 197 (by decide +kernel) rfl), (in2 198 (by decide +kernel) rfl), TX6, 16, rfl⟩
theorem w_X6_readLine : MV mX6_readLine 5 1 := ⟨⟨(in2 203 (by decide +kernel) rfl), (in1 2 (by decide +kernel) rfl), ⟨by decide +kernel, by decide +kernel⟩, by decide +kernel⟩, (in2 202 (by decide +kernel) rfl), (big_sel (List.mem_of_getElem? (i := 1) (by decide +kernel)) rfl), TX6, 16, rfl⟩
theorem w_X6_readChalet : MV mX6_readChalet 5 0 := ⟨⟨(in3 47 (by decide +kernel) rfl), (in1 2 (by decide +kernel) rfl), ⟨by decide +kernel, by decide +kernel⟩, by decide +kernel⟩, (in3 46 (by decide +kernel) rfl), (big_sel (List.mem_of_getElem? (i := 8) (by decide +kernel)) rfl), TX6, 16, rfl⟩
theorem w_X6_readWeather : MV mX6_readWeather 5 0 := ⟨⟨(in3 64 (by decide +kernel) rfl), (in1 2 (by decide +kernel) rfl), ⟨by decide +kernel, by decide +kernel⟩, by decide +kernel⟩, (in3 63 (by decide +kernel) rfl), (big_sel (List.mem_of_getElem? (i := 11) (by decide +kernel)) rfl), TX6, 16, rfl⟩
theorem w_X6_readVent : MV mX6_readVent 5 0 := ⟨⟨(in3 74 (by decide +kernel) rfl), (in1 2 (by decide +kernel) rfl), ⟨by decide +kernel, by decide +kernel⟩, by decide +kernel⟩, (in3 73 (by decide +kernel) rfl), (big_sel (List.mem_of_getElem? (i := 12) (by decide +kernel)) rfl), TX6, 16, rfl⟩
theorem w_X6_readPlan : MV mX6_readPlan 5 0 := ⟨⟨(in3 107 (by decide +kernel) rfl), (in1 2 (by decide +kernel) rfl), ⟨by decide +kernel, by decide +kernel⟩, by decide +kernel⟩, (in3 106 (by decide +kernel) rfl), (big_sel (List.mem_of_getElem? (i := 18) (by decide +kernel)) rfl), TX6, 16, rfl⟩
theorem w_X6_readSaw : MV mX6_readSaw 5 0 := ⟨⟨(in3 113 (by decide +kernel) rfl), (in1 2 (by decide +kernel) rfl), ⟨by decide +kernel, by decide +kernel⟩, by decide +kernel⟩, (in3 112 (by decide +kernel) rfl), (big_sel (List.mem_of_getElem? (i := 19) (by decide +kernel)) rfl), TX6, 16, rfl⟩
theorem w_X6_readField : MV mX6_readField 5 0 := ⟨⟨(in3 138 (by decide +kernel) rfl), (in1 2 (by decide +kernel) rfl), ⟨by decide +kernel, by decide +kernel⟩, by decide +kernel⟩, (in3 137 (by decide +kernel) rfl), (big_sel (List.mem_of_getElem? (i := 21) (by decide +kernel)) rfl), TX6, 16, rfl⟩
theorem w_X6_readDitch : MV mX6_readDitch 5 0 := ⟨⟨(in3 142 (by decide +kernel) rfl), (in1 2 (by decide +kernel) rfl), ⟨by decide +kernel, by decide +kernel⟩, by decide +kernel⟩, (in3 141 (by decide +kernel) rfl), (big_sel (List.mem_of_getElem? (i := 22) (by decide +kernel)) rfl), TX6, 16, rfl⟩
theorem w_X6_fails : MV mX6_fails 5 1 := ⟨⟨(in3 43 (by decide +kernel) rfl), (in1 2 (by decide +kernel) rfl), ⟨by decide +kernel, by decide +kernel⟩, by decide +kernel⟩, (in3 42 (by decide +kernel) rfl), (big_sel (List.mem_of_getElem? (i := 7) (by decide +kernel)) rfl), TX6, 16, rfl⟩
theorem w_X6_wants : MV mX6_wants 5 1 := ⟨⟨(in3 52 (by decide +kernel) rfl), (in1 2 (by decide +kernel) rfl), ⟨by decide +kernel, by decide +kernel⟩, by decide +kernel⟩, (in3 51 (by decide +kernel) rfl), (big_sel (List.mem_of_getElem? (i := 9) (by decide +kernel)) rfl), TX6, 16, rfl⟩
theorem w_X6_wantsWhole : MV mX6_wantsWhole 5 2 := ⟨⟨(in3 56 (by decide +kernel) rfl), (in1 2 (by decide +kernel) rfl), ⟨by decide +kernel, by decide +kernel⟩, by decide +kernel⟩, (in3 55 (by decide +kernel) rfl), (big_sel (List.mem_of_getElem? (i := 10) (by decide +kernel)) rfl), TX6, 16, rfl⟩
theorem w_X6_wantsCell : MV mX6_wantsCell 5 4 := ⟨⟨(in3 94 (by decide +kernel) rfl), (in1 2 (by decide +kernel) rfl), ⟨by decide +kernel, by decide +kernel⟩, by decide +kernel⟩, (in3 93 (by decide +kernel) rfl), (big_sel (List.mem_of_getElem? (i := 16) (by decide +kernel)) rfl), TX6, 16, rfl⟩
theorem w_X6_closes : MV mX6_closes 5 1 := ⟨⟨(in3 99 (by decide +kernel) rfl), (in1 2 (by decide +kernel) rfl), ⟨by decide +kernel, by decide +kernel⟩, by decide +kernel⟩, (in3 98 (by decide +kernel) rfl), (big_sel (List.mem_of_getElem? (i := 17) (by decide +kernel)) rfl), TX6, 16, rfl⟩
theorem w_X6_wantsWeather : MV mX6_wantsWeather 5 2 := ⟨⟨(in3 86 (by decide +kernel) rfl), (in1 2 (by decide +kernel) rfl), ⟨by decide +kernel, by decide +kernel⟩, by decide +kernel⟩, (in3 85 (by decide +kernel) rfl), (big_sel (List.mem_of_getElem? (i := 15) (by decide +kernel)) rfl), TX6, 16, rfl⟩
theorem w_X6_wantsWho : MV mX6_wantsWho 5 0 := ⟨⟨(in3 130 (by decide +kernel) rfl), (in1 2 (by decide +kernel) rfl), ⟨by decide +kernel, by decide +kernel⟩, by decide +kernel⟩, (in3 129 (by decide +kernel) rfl), (big_sel (List.mem_of_getElem? (i := 20) (by decide +kernel)) rfl), TX6, 16, rfl⟩
theorem w_X6_wantsNewName : MV mX6_wantsNewName 5 1 := ⟨⟨(in3 78 (by decide +kernel) rfl), (in1 2 (by decide +kernel) rfl), ⟨by decide +kernel, by decide +kernel⟩, by decide +kernel⟩, (in3 77 (by decide +kernel) rfl), (big_sel (List.mem_of_getElem? (i := 13) (by decide +kernel)) rfl), TX6, 16, rfl⟩
theorem w_X6_wantsField : MV mX6_wantsField 5 0 := ⟨⟨(in3 146 (by decide +kernel) rfl), (in1 2 (by decide +kernel) rfl), ⟨by decide +kernel, by decide +kernel⟩, by decide +kernel⟩, (in3 145 (by decide +kernel) rfl), (big_sel (List.mem_of_getElem? (i := 23) (by decide +kernel)) rfl), TX6, 16, rfl⟩
theorem w_X6_nameNumber : MV mX6_nameNumber 5 0 := ⟨⟨(in3 82 (by decide +kernel) rfl), (in1 2 (by decide +kernel) rfl), ⟨by decide +kernel, by decide +kernel⟩, by decide +kernel⟩, (in3 81 (by decide +kernel) rfl), (big_sel (List.mem_of_getElem? (i := 14) (by decide +kernel)) rfl), TX6, 16, rfl⟩
theorem w_X6_beginsLine : MV mX6_beginsLine 5 0 := ⟨⟨(in2 220 (by decide +kernel) rfl), (in1 2 (by decide +kernel) rfl), ⟨by decide +kernel, by decide +kernel⟩, by decide +kernel⟩, (in2 219 (by decide +kernel) rfl), (big_sel (List.mem_of_getElem? (i := 5) (by decide +kernel)) rfl), TX6, 16, rfl⟩
theorem w_X6_isWord : MV mX6_isWord 5 1 := ⟨⟨(in2 225 (by decide +kernel) rfl), (in1 2 (by decide +kernel) rfl), ⟨by decide +kernel, by decide +kernel⟩, by decide +kernel⟩, (in2 224 (by decide +kernel) rfl), (big_sel (List.mem_of_getElem? (i := 6) (by decide +kernel)) rfl), TX6, 16, rfl⟩
theorem w_X6_nextToken : MV mX6_nextToken 5 0 := ⟨⟨(in2 207 (by decide +kernel) rfl), (in1 2 (by decide +kernel) rfl), ⟨by decide +kernel, by decide +kernel⟩, by decide +kernel⟩, (in2 206 (by decide +kernel) rfl), (big_sel (List.mem_of_getElem? (i := 2) (by decide +kernel)) rfl), TX6, 16, rfl⟩
theorem w_X6_takeWord : MV mX6_takeWord 5 0 := ⟨⟨(in2 215 (by decide +kernel) rfl), (in1 2 (by decide +kernel) rfl), ⟨by decide +kernel, by decide +kernel⟩, by decide +kernel⟩, (in2 214 (by decide +kernel) rfl), (big_sel (List.mem_of_getElem? (i := 4) (by decide +kernel)) rfl), TX6, 16, rfl⟩
theorem w_X6_takeWhole : MV mX6_takeWhole 5 0 := ⟨⟨(in2 211 (by decide +kernel) rfl), (in1 2 (by decide +kernel) rfl), ⟨by decide +kernel, by decide +kernel⟩, by decide +kernel⟩, (in2 210 (by decide +kernel) rfl), (big_sel (List.mem_of_getElem? (i := 3) (by decide +kernel)) rfl), TX6, 16, rfl⟩
theorem w_X7_init : MIn mX7_init 2 := ⟨⟨(in1 47 (by decide +kernel) rfl), (in1 4 (by decide +kernel) rfl), ⟨by decide +kernel, by decide +kernel⟩, by decide +kernel⟩, (in1 46 (by decide +kernel) rfl), rfl⟩
theorem w_X7_isFull : MV mX7_isFull 6 0 := ⟨⟨(in3 70 (by decide +kernel) rfl), (in1 4 (by decide +kernel) rfl), ⟨by decide +kernel, by decide +kernel⟩, by decide +kernel⟩, (in3 68 (by decide +kernel) rfl), (in3 69 (by decide +kernel) rfl), TX7, 4, rfl⟩
theorem w_X7_holds : MV mX7_holds 6 1 := ⟨⟨(in3 126 (by decide +kernel) rfl), (in1 4 (by decide +kernel) rfl), ⟨by decide +kernel, by decide +kernel⟩, by decide +kernel⟩, (in3 124 (by decide +kernel) rfl), (in3 125 (by decide +kernel) rfl), TX7, 4, rfl⟩
theorem w_X7_cell : MV mX7_cell 6 2 := ⟨⟨(in3 122 (by decide +kernel) rfl), (in1 4 (by decide +kernel) rfl), ⟨by decide +kernel, by decide +kernel⟩, by decide +kernel⟩, (in3 120 (by decide +kernel) rfl), (in3 121 (by decide +kernel) rfl), TX7, 4, rfl⟩
theorem w_X7_put : MV mX7_put 6 2 := ⟨⟨(in3 90 (by decide +kernel) rfl), (in1 4 (by decide +kernel) rfl), ⟨by decide +kernel, by decide +kernel⟩, by decide +kernel⟩, (in3 88 (by decide +kernel) rfl), (in3 89 (by decide +kernel) rfl), TX7, 4, rfl⟩
theorem w_X7_closeRow : MV mX7_closeRow 6 0 := ⟨⟨(in3 103 (by decide +kernel) rfl), (in1 4 (by decide +kernel) rfl), ⟨by decide +kernel, by decide +kernel⟩, by decide +kernel⟩, (in3 101 (by decide +kernel) rfl), (in3 102 (by decide +kernel) rfl), TX7, 4, rfl⟩
theorem w_X8_init : MIn mX8_init 0 := ⟨⟨(in1 41 (by decide +kernel) rfl), (in1 3 (by decide +kernel) rfl), ⟨by decide +kernel, by decide +kernel⟩, by decide +kernel⟩, (in1 40 (by decide +kernel) rfl), rfl⟩
theorem w_X8_clear : MV mX8_clear 7 0 := ⟨⟨(in2 195 (by decide +kernel) rfl), (in1 3 (by decide +kernel) rfl), ⟨by decide +kernel, by decide +kernel⟩, by decide +kernel⟩, (in2 193 (by decide +kernel) rfl), (in2 194 (by decide +kernel) rfl), TX8, 11, rfl⟩
theorem w_X8_pullOfVents : MV mX8_pullOfVents 7 1 := ⟨⟨(in3 235 (by decide +kernel) rfl), (in1 3 (by decide +kernel) rfl), ⟨by decide +kernel, by decide +kernel⟩, by decide +kernel⟩, (in3 233 (by decide +kernel) rfl), (in3 234 (by decide +kernel) rfl), TX8, 11, rfl⟩
theorem w_X8_isKept : MV mX8_isKept 7 2 := ⟨⟨(in4 7 (by decide +kernel) rfl), (in1 3 (by decide +kernel) rfl), ⟨by decide +kernel, by decide +kernel⟩, by decide +kernel⟩, (in4 5 (by decide +kernel) rfl), (in4 6 (by decide +kernel) rfl), TX8, 11, rfl⟩
theorem w_X8_worthKept : MV mX8_worthKept 7 2 := ⟨⟨(in4 74 (by decide +kernel) rfl), (in1 3 (by decide +kernel) rfl), ⟨by decide +kernel, by decide +kernel⟩, by decide +kernel⟩, (in4 72 (by decide +kernel) rfl), (in4 73 (by decide +kernel) rfl), TX8, 11, rfl⟩
theorem w_X8_keptAll : MV mX8_keptAll 7 2 := ⟨⟨(in4 113 (by decide +kernel) rfl), (in1 3 (by decide +kernel) rfl), ⟨by decide +kernel, by decide +kernel⟩, by decide +kernel⟩, (in4 111 (by decide +kernel) rfl), (in4 112 (by decide +kernel) rfl), TX8, 11, rfl⟩
theorem w_X8_hasDitch : MV mX8_hasDitch 7 2 := ⟨⟨(in3 150 (by decide +kernel) rfl), (in1 3 (by decide +kernel) rfl), ⟨by decide +kernel, by decide +kernel⟩, by decide +kernel⟩, (in3 148 (by decide +kernel) rfl), (in3 149 (by decide +kernel) rfl), TX8, 11, rfl⟩
theorem w_X8_sawOn : MV mX8_sawOn 7 1 := ⟨⟨(in3 118 (by decide +kernel) rfl), (in1 3 (by decide +kernel) rfl), ⟨by decide +kernel, by decide +kernel⟩, by decide +kernel⟩, (in3 116 (by decide +kernel) rfl), (in3 117 (by decide +kernel) rfl), TX8, 11, rfl⟩
theorem w_X9_init : MIn mX9_init 0 := ⟨⟨(in2 46 (by decide +kernel) rfl), (in1 8 (by decide +kernel) rfl), ⟨by decide +kernel, by decide +kernel⟩, by decide +kernel⟩, (in2 45 (by decide +kernel) rfl), rfl⟩
theorem w_X9_take : MV mX9_take 8 3 := ⟨⟨(in4 83 (by decide +kernel) rfl), (in1 8 (by decide +kernel) rfl), ⟨by decide +kernel, by decide +kernel⟩, by decide +kernel⟩, (in4 81 (by decide +kernel) rfl), (in4 82 (by decide +kernel) rfl), TX9, 5, rfl⟩
theorem w_X9_worth : MV mX9_worth 8 3 := ⟨⟨(in4 87 (by decide +kernel) rfl), (in1 8 (by decide +kernel) rfl), ⟨by decide +kernel, by decide +kernel⟩, by decide +kernel⟩, (in4 85 (by decide +kernel) rfl), (in4 86 (by decide +kernel) rfl), TX9, 5, rfl⟩
theorem w_X9_search : MV mX9_search 8 4 := ⟨⟨(in4 126 (by decide +kernel) rfl), (in1 8 (by decide +kernel) rfl), ⟨by decide +kernel, by decide +kernel⟩, by decide +kernel⟩, (in4 124 (by decide +kernel) rfl), (in4 125 (by decide +kernel) rfl), TX9, 5, rfl⟩
theorem w_X9_follow : MV mX9_follow 8 3 := ⟨⟨(in4 92 (by decide +kernel) rfl), (in1 8 (by decide +kernel) rfl), ⟨by decide +kernel, by decide +kernel⟩, by decide +kernel⟩, (in4 91 (by decide +kernel) rfl), (big_sel (List.mem_of_getElem? (i := 28) (by decide +kernel)) rfl), TX9, 5, rfl⟩
theorem w_X9_passTurn : MV mX9_passTurn 8 3 := ⟨⟨(in4 97 (by decide +kernel) rfl), (in1 8 (by decide +kernel) rfl), ⟨by decide +kernel, by decide +kernel⟩, by decide +kernel⟩, (in4 96 (by decide +kernel) rfl), (big_sel (List.mem_of_getElem? (i := 29) (by decide +kernel)) rfl), TX9, 5, rfl⟩
theorem w_X9_scoreOf : MV mX9_scoreOf 8 4 := ⟨⟨(in4 107 (by decide +kernel) rfl), (in1 8 (by decide +kernel) rfl), ⟨by decide +kernel, by decide +kernel⟩, by decide +kernel⟩, (in4 106 (by decide +kernel) rfl), (big_sel (List.mem_of_getElem? (i := 30) (by decide +kernel)) rfl), TX9, 5, rfl⟩
theorem w_X9_opened : MV mX9_opened 8 1 := ⟨⟨(in4 118 (by decide +kernel) rfl), (in1 8 (by decide +kernel) rfl), ⟨by decide +kernel, by decide +kernel⟩, by decide +kernel⟩, (in4 117 (by decide +kernel) rfl), (big_sel (List.mem_of_getElem? (i := 31) (by decide +kernel)) rfl), TX9, 5, rfl⟩
theorem w_X9_digits : MV mX9_digits 8 1 := ⟨⟨(in4 134 (by decide +kernel) rfl), (in1 8 (by decide +kernel) rfl), ⟨by decide +kernel, by decide +kernel⟩, by decide +kernel⟩, (in4 133 (by decide +kernel) rfl), (big_sel (List.mem_of_getElem? (i := 32) (by decide +kernel)) rfl), TX9, 5, rfl⟩
theorem w_X9_rowsOf : MSt mX9_rowsOf 2 := ⟨⟨(in4 130 (by decide +kernel) rfl), (in1 8 (by decide +kernel) rfl), ⟨by decide +kernel, by decide +kernel⟩, by decide +kernel⟩, (in4 129 (by decide +kernel) rfl)⟩
theorem w_X9_nextRow : MV mX9_nextRow 8 2 := ⟨⟨(in4 138 (by decide +kernel) rfl), (in1 8 (by decide +kernel) rfl), ⟨by decide +kernel, by decide +kernel⟩, by decide +kernel⟩, (in4 137 (by decide +kernel) rfl), (big_sel (List.mem_of_getElem? (i := 33) (by decide +kernel)) rfl), TX9, 5, rfl⟩
theorem w_X9_played : MV mX9_played 8 3 := ⟨⟨(in5 1 (by decide +kernel) rfl), (in1 8 (by decide +kernel) rfl), ⟨by decide +kernel, by decide +kernel⟩, by decide +kernel⟩, (in4 239 (by decide +kernel) rfl), (in5 0 (by decide +kernel) rfl), TX9, 5, rfl⟩
theorem w_X9_bestFrom : MSt mX9_bestFrom 4 := ⟨⟨(in5 4 (by decide +kernel) rfl), (in1 8 (by decide +kernel) rfl), ⟨by decide +kernel, by decide +kernel⟩, by decide +kernel⟩, (in5 3 (by decide +kernel) rfl)⟩
theorem w_X9_firstOpened : MV mX9_firstOpened 8 3 := ⟨⟨(in5 14 (by decide +kernel) rfl), (in1 8 (by decide +kernel) rfl), ⟨by decide +kernel, by decide +kernel⟩, by decide +kernel⟩, (in5 12 (by decide +kernel) rfl), (in5 13 (by decide +kernel) rfl), TX9, 5, rfl⟩
theorem w_X10_init : MIn mX10_init 0 := ⟨⟨(in1 27 (by decide +kernel) rfl), (in1 1 (by decide +kernel) rfl), ⟨by decide +kernel, by decide +kernel⟩, by decide +kernel⟩, (in1 26 (by decide +kernel) rfl), rfl⟩
theorem w_X10_feed : MV mX10_feed 9 5 := ⟨⟨(in2 169 (by decide +kernel) rfl), (in1 1 (by decide +kernel) rfl), ⟨by decide +kernel, by decide +kernel⟩, by decide +kernel⟩, (in2 167 (by decide +kernel) rfl), (in2 168 (by decide +kernel) rfl), TX10, 12, rfl⟩
theorem w_X10_chalet : MV mX10_chalet 9 1 := ⟨⟨(in2 177 (by decide +kernel) rfl), (in1 1 (by decide +kernel) rfl), ⟨by decide +kernel, by decide +kernel⟩, by decide +kernel⟩, (in2 175 (by decide +kernel) rfl), (in2 176 (by decide +kernel) rfl), TX10, 12, rfl⟩
theorem w_X10_fault : MV mX10_fault 9 0 := ⟨⟨(in3 171 (by decide +kernel) rfl), (in1 1 (by decide +kernel) rfl), ⟨by decide +kernel, by decide +kernel⟩, by decide +kernel⟩, (in3 169 (by decide +kernel) rfl), (in3 170 (by decide +kernel) rfl), TX10, 12, rfl⟩
theorem w_X10_where : MV mX10_where 9 0 := ⟨⟨(in3 175 (by decide +kernel) rfl), (in1 1 (by decide +kernel) rfl), ⟨by decide +kernel, by decide +kernel⟩, by decide +kernel⟩, (in3 173 (by decide +kernel) rfl), (in3 174 (by decide +kernel) rfl), TX10, 12, rfl⟩
theorem w_X10_beam : MV mX10_beam 9 1 := ⟨⟨(in3 179 (by decide +kernel) rfl), (in1 1 (by decide +kernel) rfl), ⟨by decide +kernel, by decide +kernel⟩, by decide +kernel⟩, (in3 177 (by decide +kernel) rfl), (in3 178 (by decide +kernel) rfl), TX10, 12, rfl⟩
theorem w_X10_vent : MV mX10_vent 9 2 := ⟨⟨(in3 194 (by decide +kernel) rfl), (in1 1 (by decide +kernel) rfl), ⟨by decide +kernel, by decide +kernel⟩, by decide +kernel⟩, (in3 192 (by decide +kernel) rfl), (in3 193 (by decide +kernel) rfl), TX10, 12, rfl⟩
theorem w_X10_plan : MV mX10_plan 9 2 := ⟨⟨(in3 204 (by decide +kernel) rfl), (in1 1 (by decide +kernel) rfl), ⟨by decide +kernel, by decide +kernel⟩, by decide +kernel⟩, (in3 202 (by decide +kernel) rfl), (in3 203 (by decide +kernel) rfl), TX10, 12, rfl⟩
theorem w_X10_goes : MV mX10_goes 9 1 := ⟨⟨(in4 15 (by decide +kernel) rfl), (in1 1 (by decide +kernel) rfl), ⟨by decide +kernel, by decide +kernel⟩, by decide +kernel⟩, (in4 13 (by decide +kernel) rfl), (in4 14 (by decide +kernel) rfl), TX10, 12, rfl⟩
theorem w_X10_stays : MV mX10_stays 9 0 := ⟨⟨(in4 24 (by decide +kernel) rfl), (in1 1 (by decide +kernel) rfl), ⟨by decide +kernel, by decide +kernel⟩, by decide +kernel⟩, (in4 22 (by decide +kernel) rfl), (in4 23 (by decide +kernel) rfl), TX10, 12, rfl⟩
theorem w_X10_angleIn : MV mX10_angleIn 9 1 := ⟨⟨(in4 29 (by decide +kernel) rfl), (in1 1 (by decide +kernel) rfl), ⟨by decide +kernel, by decide +kernel⟩, by decide +kernel⟩, (in4 27 (by decide +kernel) rfl), (in4 28 (by decide +kernel) rfl), TX10, 12, rfl⟩
theorem w_X10_dampIn : MV mX10_dampIn 9 1 := ⟨⟨(in4 34 (by decide +kernel) rfl), (in1 1 (by decide +kernel) rfl), ⟨by decide +kernel, by decide +kernel⟩, by decide +kernel⟩, (in4 32 (by decide +kernel) rfl), (in4 33 (by decide +kernel) rfl), TX10, 12, rfl⟩
theorem w_X10_whoIn : MV mX10_whoIn 9 1 := ⟨⟨(in4 38 (by decide +kernel) rfl), (in1 1 (by decide +kernel) rfl), ⟨by decide +kernel, by decide +kernel⟩, by decide +kernel⟩, (in4 36 (by decide +kernel) rfl), (in4 37 (by decide +kernel) rfl), TX10, 12, rfl⟩
theorem w_X10_daysOf : MV mX10_daysOf 9 2 := ⟨⟨(in4 42 (by decide +kernel) rfl), (in1 1 (by decide +kernel) rfl), ⟨by decide +kernel, by decide +kernel⟩, by decide +kernel⟩, (in4 40 (by decide +kernel) rfl), (in4 41 (by decide +kernel) rfl), TX10, 12, rfl⟩
theorem w_X10_when : MV mX10_when 9 1 := ⟨⟨(in4 50 (by decide +kernel) rfl), (in1 1 (by decide +kernel) rfl), ⟨by decide +kernel, by decide +kernel⟩, by decide +kernel⟩, (in4 48 (by decide +kernel) rfl), (in4 49 (by decide +kernel) rfl), TX10, 12, rfl⟩
theorem w_X10_round : MV mX10_round 9 0 := ⟨⟨(in4 59 (by decide +kernel) rfl), (in1 1 (by decide +kernel) rfl), ⟨by decide +kernel, by decide +kernel⟩, by decide +kernel⟩, (in4 57 (by decide +kernel) rfl), (in4 58 (by decide +kernel) rfl), TX10, 12, rfl⟩
theorem w_X10_kept : MV mX10_kept 9 1 := ⟨⟨(in4 70 (by decide +kernel) rfl), (in1 1 (by decide +kernel) rfl), ⟨by decide +kernel, by decide +kernel⟩, by decide +kernel⟩, (in4 68 (by decide +kernel) rfl), (in4 69 (by decide +kernel) rfl), TX10, 12, rfl⟩
theorem w_X10_worthOf : MV mX10_worthOf 9 2 := ⟨⟨(in4 79 (by decide +kernel) rfl), (in1 1 (by decide +kernel) rfl), ⟨by decide +kernel, by decide +kernel⟩, by decide +kernel⟩, (in4 77 (by decide +kernel) rfl), (in4 78 (by decide +kernel) rfl), TX10, 12, rfl⟩
theorem w_X10_bestRow : MV mX10_bestRow 9 1 := ⟨⟨(in4 122 (by decide +kernel) rfl), (in1 1 (by decide +kernel) rfl), ⟨by decide +kernel, by decide +kernel⟩, by decide +kernel⟩, (in4 120 (by decide +kernel) rfl), (in4 121 (by decide +kernel) rfl), TX10, 12, rfl⟩
theorem w_X10_bestWorth : MV mX10_bestWorth 9 1 := ⟨⟨(in4 142 (by decide +kernel) rfl), (in1 1 (by decide +kernel) rfl), ⟨by decide +kernel, by decide +kernel⟩, by decide +kernel⟩, (in4 140 (by decide +kernel) rfl), (in4 141 (by decide +kernel) rfl), TX10, 12, rfl⟩
theorem w_X10_sureRow : MV mX10_sureRow 9 1 := ⟨⟨(in4 146 (by decide +kernel) rfl), (in1 1 (by decide +kernel) rfl), ⟨by decide +kernel, by decide +kernel⟩, by decide +kernel⟩, (in4 144 (by decide +kernel) rfl), (in4 145 (by decide +kernel) rfl), TX10, 12, rfl⟩
theorem w_X10_sureCoins : MV mX10_sureCoins 9 1 := ⟨⟨(in4 150 (by decide +kernel) rfl), (in1 1 (by decide +kernel) rfl), ⟨by decide +kernel, by decide +kernel⟩, by decide +kernel⟩, (in4 148 (by decide +kernel) rfl), (in4 149 (by decide +kernel) rfl), TX10, 12, rfl⟩
theorem w_X10_rowFor : MV mX10_rowFor 9 2 := ⟨⟨(in4 154 (by decide +kernel) rfl), (in1 1 (by decide +kernel) rfl), ⟨by decide +kernel, by decide +kernel⟩, by decide +kernel⟩, (in4 152 (by decide +kernel) rfl), (in4 153 (by decide +kernel) rfl), TX10, 12, rfl⟩
theorem w_X10_makes : MV mX10_makes 9 0 := ⟨⟨(in4 158 (by decide +kernel) rfl), (in1 1 (by decide +kernel) rfl), ⟨by decide +kernel, by decide +kernel⟩, by decide +kernel⟩, (in4 156 (by decide +kernel) rfl), (in4 157 (by decide +kernel) rfl), TX10, 12, rfl⟩
theorem w_X10_makeAt : MV mX10_makeAt 9 1 := ⟨⟨(in4 182 (by decide +kernel) rfl), (in1 1 (by decide +kernel) rfl), ⟨by decide +kernel, by decide +kernel⟩, by decide +kernel⟩, (in4 180 (by decide +kernel) rfl), (in4 181 (by decide +kernel) rfl), TX10, 12, rfl⟩
theorem w_X10_could : MV mX10_could 9 1 := ⟨⟨(in4 190 (by decide +kernel) rfl), (in1 1 (by decide +kernel) rfl), ⟨by decide +kernel, by decide +kernel⟩, by decide +kernel⟩, (in4 188 (by decide +kernel) rfl), (in4 189 (by decide +kernel) rfl), TX10, 12, rfl⟩
theorem w_X10_surely : MV mX10_surely 9 1 := ⟨⟨(in4 198 (by decide +kernel) rfl), (in1 1 (by decide +kernel) rfl), ⟨by decide +kernel, by decide +kernel⟩, by decide +kernel⟩, (in4 196 (by decide +kernel) rfl), (in4 197 (by decide +kernel) rfl), TX10, 12, rfl⟩
theorem w_X10_look : MV mX10_look 9 0 := ⟨⟨(in4 207 (by decide +kernel) rfl), (in1 1 (by decide +kernel) rfl), ⟨by decide +kernel, by decide +kernel⟩, by decide +kernel⟩, (in4 205 (by decide +kernel) rfl), (in4 206 (by decide +kernel) rfl), TX10, 12, rfl⟩
theorem w_X10_lookLeaves : MV mX10_lookLeaves 9 0 := ⟨⟨(in4 225 (by decide +kernel) rfl), (in1 1 (by decide +kernel) rfl), ⟨by decide +kernel, by decide +kernel⟩, by decide +kernel⟩, (in4 223 (by decide +kernel) rfl), (in4 224 (by decide +kernel) rfl), TX10, 12, rfl⟩
theorem w_X10_judge : MV mX10_judge 9 0 := ⟨⟨(in4 229 (by decide +kernel) rfl), (in1 1 (by decide +kernel) rfl), ⟨by decide +kernel, by decide +kernel⟩, by decide +kernel⟩, (in4 227 (by decide +kernel) rfl), (in4 228 (by decide +kernel) rfl), TX10, 12, rfl⟩
theorem w_X10_value : MV mX10_value 9 1 := ⟨⟨(in4 237 (by decide +kernel) rfl), (in1 1 (by decide +kernel) rfl), ⟨by decide +kernel, by decide +kernel⟩, by decide +kernel⟩, (in4 235 (by decide +kernel) rfl), (in4 236 (by decide +kernel) rfl), TX10, 12, rfl⟩
theorem w_X10_opens : MV mX10_opens 9 1 := ⟨⟨(in5 10 (by decide +kernel) rfl), (in1 1 (by decide +kernel) rfl), ⟨by decide +kernel, by decide +kernel⟩, by decide +kernel⟩, (in5 8 (by decide +kernel) rfl), (in5 9 (by decide +kernel) rfl), TX10, 12, rfl⟩
theorem w_X10_flood : MV mX10_flood 9 0 := ⟨⟨(in5 18 (by decide +kernel) rfl), (in1 1 (by decide +kernel) rfl), ⟨by decide +kernel, by decide +kernel⟩, by decide +kernel⟩, (in5 16 (by decide +kernel) rfl), (in5 17 (by decide +kernel) rfl), TX10, 12, rfl⟩
theorem w_X10_cut : MV mX10_cut 9 0 := ⟨⟨(in5 32 (by decide +kernel) rfl), (in1 1 (by decide +kernel) rfl), ⟨by decide +kernel, by decide +kernel⟩, by decide +kernel⟩, (in5 30 (by decide +kernel) rfl), (in5 31 (by decide +kernel) rfl), TX10, 12, rfl⟩
theorem w_X10_floodIf : MV mX10_floodIf 9 2 := ⟨⟨(in5 37 (by decide +kernel) rfl), (in1 1 (by decide +kernel) rfl), ⟨by decide +kernel, by decide +kernel⟩, by decide +kernel⟩, (in5 35 (by decide +kernel) rfl), (in5 36 (by decide +kernel) rfl), TX10, 12, rfl⟩
theorem w_X10_narrow : MV mX10_narrow 9 0 := ⟨⟨(in5 41 (by decide +kernel) rfl), (in1 1 (by decide +kernel) rfl), ⟨by decide +kernel, by decide +kernel⟩, by decide +kernel⟩, (in5 39 (by decide +kernel) rfl), (in5 40 (by decide +kernel) rfl), TX10, 12, rfl⟩
theorem w_X10_downhill : MV mX10_downhill 9 1 := ⟨⟨(in5 49 (by decide +kernel) rfl), (in1 1 (by decide +kernel) rfl), ⟨by decide +kernel, by decide +kernel⟩, by decide +kernel⟩, (in5 47 (by decide +kernel) rfl), (in5 48 (by decide +kernel) rfl), TX10, 12, rfl⟩
theorem w_X10_likely : MV mX10_likely 9 3 := ⟨⟨(in5 56 (by decide +kernel) rfl), (in1 1 (by decide +kernel) rfl), ⟨by decide +kernel, by decide +kernel⟩, by decide +kernel⟩, (in5 54 (by decide +kernel) rfl), (in5 55 (by decide +kernel) rfl), TX10, 12, rfl⟩
theorem w_X10_mean : MV mX10_mean 9 2 := ⟨⟨(in5 81 (by decide +kernel) rfl), (in1 1 (by decide +kernel) rfl), ⟨by decide +kernel, by decide +kernel⟩, by decide +kernel⟩, (in5 79 (by decide +kernel) rfl), (in5 80 (by decide +kernel) rfl), TX10, 12, rfl⟩
theorem w_X10_gusted : MV mX10_gusted 9 2 := ⟨⟨(in5 85 (by decide +kernel) rfl), (in1 1 (by decide +kernel) rfl), ⟨by decide +kernel, by decide +kernel⟩, by decide +kernel⟩, (in5 83 (by decide +kernel) rfl), (in5 84 (by decide +kernel) rfl), TX10, 12, rfl⟩
theorem w_X10_wetIn : MV mX10_wetIn 9 2 := ⟨⟨(in5 95 (by decide +kernel) rfl), (in1 1 (by decide +kernel) rfl), ⟨by decide +kernel, by decide +kernel⟩, by decide +kernel⟩, (in5 93 (by decide +kernel) rfl), (in5 94 (by decide +kernel) rfl), TX10, 12, rfl⟩
theorem w_X10_open : MV mX10_open 9 1 := ⟨⟨(in5 99 (by decide +kernel) rfl), (in1 1 (by decide +kernel) rfl), ⟨by decide +kernel, by decide +kernel⟩, by decide +kernel⟩, (in5 97 (by decide +kernel) rfl), (in5 98 (by decide +kernel) rfl), TX10, 12, rfl⟩
theorem w_X10_oil : MV mX10_oil 9 0 := ⟨⟨(in5 111 (by decide +kernel) rfl), (in1 1 (by decide +kernel) rfl), ⟨by decide +kernel, by decide +kernel⟩, by decide +kernel⟩, (in5 109 (by decide +kernel) rfl), (in5 110 (by decide +kernel) rfl), TX10, 12, rfl⟩
theorem w_X10_day : MV mX10_day 9 0 := ⟨⟨(in5 115 (by decide +kernel) rfl), (in1 1 (by decide +kernel) rfl), ⟨by decide +kernel, by decide +kernel⟩, by decide +kernel⟩, (in5 113 (by decide +kernel) rfl), (in5 114 (by decide +kernel) rfl), TX10, 12, rfl⟩
theorem w_X10_undo : MV mX10_undo 9 0 := ⟨⟨(in5 120 (by decide +kernel) rfl), (in1 1 (by decide +kernel) rfl), ⟨by decide +kernel, by decide +kernel⟩, by decide +kernel⟩, (in5 118 (by decide +kernel) rfl), (in5 119 (by decide +kernel) rfl), TX10, 12, rfl⟩
theorem w_X10_image : MV mX10_image 9 0 := ⟨⟨(in5 128 (by decide +kernel) rfl), (in1 1 (by decide +kernel) rfl), ⟨by decide +kernel, by decide +kernel⟩, by decide +kernel⟩, (in5 126 (by decide +kernel) rfl), (in5 127 (by decide +kernel) rfl), TX10, 12, rfl⟩
theorem w_X10_back : MV mX10_back 9 1 := ⟨⟨(in5 136 (by decide +kernel) rfl), (in1 1 (by decide +kernel) rfl), ⟨by decide +kernel, by decide +kernel⟩, by decide +kernel⟩, (in5 134 (by decide +kernel) rfl), (in5 135 (by decide +kernel) rfl), TX10, 12, rfl⟩
theorem w_X10_led : MV mX10_led 9 1 := ⟨⟨(in5 156 (by decide +kernel) rfl), (in1 1 (by decide +kernel) rfl), ⟨by decide +kernel, by decide +kernel⟩, by decide +kernel⟩, (in5 154 (by decide +kernel) rfl), (in5 155 (by decide +kernel) rfl), TX10, 12, rfl⟩
theorem w_X10_size : MV mX10_size 9 1 := ⟨⟨(in5 144 (by decide +kernel) rfl), (in1 1 (by decide +kernel) rfl), ⟨by decide +kernel, by decide +kernel⟩, by decide +kernel⟩, (in5 142 (by decide +kernel) rfl), (in5 143 (by decide +kernel) rfl), TX10, 12, rfl⟩
theorem w_X10_trouble : MV mX10_trouble 9 0 := ⟨⟨(in5 148 (by decide +kernel) rfl), (in1 1 (by decide +kernel) rfl), ⟨by decide +kernel, by decide +kernel⟩, by decide +kernel⟩, (in5 146 (by decide +kernel) rfl), (in5 147 (by decide +kernel) rfl), TX10, 12, rfl⟩
theorem w_X10_within : MSt mX10_within 3 := ⟨⟨(in2 180 (by decide +kernel) rfl), (in1 1 (by decide +kernel) rfl), ⟨by decide +kernel, by decide +kernel⟩, by decide +kernel⟩, (in2 179 (by decide +kernel) rfl)⟩
theorem w_X10_refuse : MV mX10_refuse 9 1 := ⟨⟨(in2 184 (by decide +kernel) rfl), (in1 1 (by decide +kernel) rfl), ⟨by decide +kernel, by decide +kernel⟩, by decide +kernel⟩, (in2 183 (by decide +kernel) rfl), (big_sel (List.mem_of_getElem? (i := 0) (by decide +kernel)) rfl), TX10, 12, rfl⟩
theorem w_X10_refused : MV mX10_refused 9 1 := ⟨⟨(in4 19 (by decide +kernel) rfl), (in1 1 (by decide +kernel) rfl), ⟨by decide +kernel, by decide +kernel⟩, by decide +kernel⟩, (in4 18 (by decide +kernel) rfl), (big_sel (List.mem_of_getElem? (i := 27) (by decide +kernel)) rfl), TX10, 12, rfl⟩
theorem w_X10_lacks : MV mX10_lacks 9 1 := ⟨⟨(in3 183 (by decide +kernel) rfl), (in1 1 (by decide +kernel) rfl), ⟨by decide +kernel, by decide +kernel⟩, by decide +kernel⟩, (in3 182 (by decide +kernel) rfl), (big_sel (List.mem_of_getElem? (i := 25) (by decide +kernel)) rfl), TX10, 12, rfl⟩
theorem w_X10_gathered : MV mX10_gathered 9 0 := ⟨⟨(in4 162 (by decide +kernel) rfl), (in1 1 (by decide +kernel) rfl), ⟨by decide +kernel, by decide +kernel⟩, by decide +kernel⟩, (in4 161 (by decide +kernel) rfl), (big_sel (List.mem_of_getElem? (i := 34) (by decide +kernel)) rfl), TX10, 12, rfl⟩
theorem w_X10_takeDraft : MV mX10_takeDraft 9 0 := ⟨⟨(in3 155 (by decide +kernel) rfl), (in1 1 (by decide +kernel) rfl), ⟨by decide +kernel, by decide +kernel⟩, by decide +kernel⟩, (in3 154 (by decide +kernel) rfl), (big_sel (List.mem_of_getElem? (i := 24) (by decide +kernel)) rfl), TX10, 12, rfl⟩
theorem w_X11_init : MIn mX11_init 0 := ⟨⟨(in5 227 (by decide +kernel) rfl), (in1 11 (by decide +kernel) rfl), ⟨by decide +kernel, by decide +kernel⟩, by decide +kernel⟩, (in5 226 (by decide +kernel) rfl), rfl⟩
theorem w_X11_thrown : MV mX11_thrown 10 0 := ⟨⟨(in6 113 (by decide +kernel) rfl), (in1 11 (by decide +kernel) rfl), ⟨by decide +kernel, by decide +kernel⟩, by decide +kernel⟩, (in6 111 (by decide +kernel) rfl), (in6 112 (by decide +kernel) rfl), TX11, 40, rfl⟩
theorem w_X11_good : MV mX11_good 10 0 := ⟨⟨(in6 125 (by decide +kernel) rfl), (in1 11 (by decide +kernel) rfl), ⟨by decide +kernel, by decide +kernel⟩, by decide +kernel⟩, (in6 124 (by decide +kernel) rfl), (big_sel (List.mem_of_getElem? (i := 42) (by decide +kernel)) rfl), TX11, 40, rfl⟩
theorem w_X11_no : MV mX11_no 10 1 := ⟨⟨(in6 132 (by decide +kernel) rfl), (in1 11 (by decide +kernel) rfl), ⟨by decide +kernel, by decide +kernel⟩, by decide +kernel⟩, (in6 131 (by decide +kernel) rfl), (big_sel (List.mem_of_getElem? (i := 43) (by decide +kernel)) rfl), TX11, 40, rfl⟩
theorem w_X11_isNot : MV mX11_isNot 10 1 := ⟨⟨(in8 80 (by decide +kernel) rfl), (in1 11 (by decide +kernel) rfl), ⟨by decide +kernel, by decide +kernel⟩, by decide +kernel⟩, (in8 79 (by decide +kernel) rfl), (big_sel (List.mem_of_getElem? (i := 94) (by decide +kernel)) rfl), TX11, 40, rfl⟩
theorem w_X11_in : MSt mX11_in 3 := ⟨⟨(in6 128 (by decide +kernel) rfl), (in1 11 (by decide +kernel) rfl), ⟨by decide +kernel, by decide +kernel⟩, by decide +kernel⟩, (in6 127 (by decide +kernel) rfl)⟩
theorem w_X11_hasBit : MSt mX11_hasBit 2 := ⟨⟨(in7 70 (by decide +kernel) rfl), (in1 11 (by decide +kernel) rfl), ⟨by decide +kernel, by decide +kernel⟩, by decide +kernel⟩, (in7 69 (by decide +kernel) rfl)⟩
theorem w_X11_copy : MSt mX11_copy 5 := ⟨⟨(in7 17 (by decide +kernel) rfl), (in1 11 (by decide +kernel) rfl), ⟨by decide +kernel, by decide +kernel⟩, by decide +kernel⟩, (in7 16 (by decide +kernel) rfl)⟩
theorem w_X11_lowest : MSt mX11_lowest 3 := ⟨⟨(in8 54 (by decide +kernel) rfl), (in1 11 (by decide +kernel) rfl), ⟨by decide +kernel, by decide +kernel⟩, by decide +kernel⟩, (in8 53 (by decide +kernel) rfl)⟩
theorem w_X11_feed : MV mX11_feed 10 5 := ⟨⟨(in6 117 (by decide +kernel) rfl), (in1 11 (by decide +kernel) rfl), ⟨by decide +kernel, by decide +kernel⟩, by decide +kernel⟩, (in6 115 (by decide +kernel) rfl), (in6 116 (by decide +kernel) rfl), TX11, 40, rfl⟩
theorem w_X11_see : MV mX11_see 10 1 := ⟨⟨(in6 140 (by decide +kernel) rfl), (in1 11 (by decide +kernel) rfl), ⟨by decide +kernel, by decide +kernel⟩, by decide +kernel⟩, (in6 139 (by decide +kernel) rfl), (big_sel (List.mem_of_getElem? (i := 45) (by decide +kernel)) rfl), TX11, 40, rfl⟩
theorem w_X11_isSmall : MSt mX11_isSmall 1 := ⟨⟨(in6 143 (by decide +kernel) rfl), (in1 11 (by decide +kernel) rfl), ⟨by decide +kernel, by decide +kernel⟩, by decide +kernel⟩, (in6 142 (by decide +kernel) rfl)⟩
theorem w_X11_isDigit : MSt mX11_isDigit 1 := ⟨⟨(in6 146 (by decide +kernel) rfl), (in1 11 (by decide +kernel) rfl), ⟨by decide +kernel, by decide +kernel⟩, by decide +kernel⟩, (in6 145 (by decide +kernel) rfl)⟩
theorem w_X11_next : MV mX11_next 10 0 := ⟨⟨(in6 136 (by decide +kernel) rfl), (in1 11 (by decide +kernel) rfl), ⟨by decide +kernel, by decide +kernel⟩, by decide +kernel⟩, (in6 135 (by decide +kernel) rfl), (big_sel (List.mem_of_getElem? (i := 44) (by decide +kernel)) rfl), TX11, 40, rfl⟩
theorem w_X11_wrong : MV mX11_wrong 10 2 := ⟨⟨(in6 165 (by decide +kernel) rfl), (in1 11 (by decide +kernel) rfl), ⟨by decide +kernel, by decide +kernel⟩, by decide +kernel⟩, (in6 164 (by decide +kernel) rfl), (big_sel (List.mem_of_getElem? (i := 49) (by decide +kernel)) rfl), TX11, 40, rfl⟩
theorem w_X11_isWord : MV mX11_isWord 10 1 := ⟨⟨(in6 155 (by decide +kernel) rfl), (in1 11 (by decide +kernel) rfl), ⟨by decide +kernel, by decide +kernel⟩, by decide +kernel⟩, (in6 154 (by decide +kernel) rfl), (big_sel (List.mem_of_getElem? (i := 47) (by decide +kernel)) rfl), TX11, 40, rfl⟩
theorem w_X11_takesWord : MV mX11_takesWord 10 1 := ⟨⟨(in6 178 (by decide +kernel) rfl), (in1 11 (by decide +kernel) rfl), ⟨by decide +kernel, by decide +kernel⟩, by decide +kernel⟩, (in6 177 (by decide +kernel) rfl), (big_sel (List.mem_of_getElem? (i := 52) (by decide +kernel)) rfl), TX11, 40, rfl⟩
theorem w_X11_must : MV mX11_must 10 1 := ⟨⟨(in6 174 (by decide +kernel) rfl), (in1 11 (by decide +kernel) rfl), ⟨by decide +kernel, by decide +kernel⟩, by decide +kernel⟩, (in6 173 (by decide +kernel) rfl), (big_sel (List.mem_of_getElem? (i := 51) (by decide +kernel)) rfl), TX11, 40, rfl⟩
theorem w_X11_mustName : MV mX11_mustName 10 0 := ⟨⟨(in6 213 (by decide +kernel) rfl), (in1 11 (by decide +kernel) rfl), ⟨by decide +kernel, by decide +kernel⟩, by decide +kernel⟩, (in6 212 (by decide +kernel) rfl), (big_sel (List.mem_of_getElem? (i := 59) (by decide +kernel)) rfl), TX11, 40, rfl⟩
theorem w_X11_find : MV mX11_find 10 0 := ⟨⟨(in6 221 (by decide +kernel) rfl), (in1 11 (by decide +kernel) rfl), ⟨by decide +kernel, by decide +kernel⟩, by decide +kernel⟩, (in6 220 (by decide +kernel) rfl), (big_sel (List.mem_of_getElem? (i := 60) (by decide +kernel)) rfl), TX11, 40, rfl⟩
theorem w_X11_newName : MV mX11_newName 10 1 := ⟨⟨(in6 209 (by decide +kernel) rfl), (in1 11 (by decide +kernel) rfl), ⟨by decide +kernel, by decide +kernel⟩, by decide +kernel⟩, (in6 208 (by decide +kernel) rfl), (big_sel (List.mem_of_getElem? (i := 58) (by decide +kernel)) rfl), TX11, 40, rfl⟩
theorem w_X11_fieldHere : MV mX11_fieldHere 10 0 := ⟨⟨(in7 13 (by decide +kernel) rfl), (in1 11 (by decide +kernel) rfl), ⟨by decide +kernel, by decide +kernel⟩, by decide +kernel⟩, (in7 12 (by decide +kernel) rfl), (big_sel (List.mem_of_getElem? (i := 66) (by decide +kernel)) rfl), TX11, 40, rfl⟩
theorem w_X11_numberHere : MV mX11_numberHere 10 2 := ⟨⟨(in6 186 (by decide +kernel) rfl), (in1 11 (by decide +kernel) rfl), ⟨by decide +kernel, by decide +kernel⟩, by decide +kernel⟩, (in6 185 (by decide +kernel) rfl), (big_sel (List.mem_of_getElem? (i := 54) (by decide +kernel)) rfl), TX11, 40, rfl⟩
theorem w_X11_number : MV mX11_number 10 2 := ⟨⟨(in6 182 (by decide +kernel) rfl), (in1 11 (by decide +kernel) rfl), ⟨by decide +kernel, by decide +kernel⟩, by decide +kernel⟩, (in6 181 (by decide +kernel) rfl), (big_sel (List.mem_of_getElem? (i := 53) (by decide +kernel)) rfl), TX11, 40, rfl⟩
theorem w_X11_after : MV mX11_after 10 3 := ⟨⟨(in6 170 (by decide +kernel) rfl), (in1 11 (by decide +kernel) rfl), ⟨by decide +kernel, by decide +kernel⟩, by decide +kernel⟩, (in6 169 (by decide +kernel) rfl), (big_sel (List.mem_of_getElem? (i := 50) (by decide +kernel)) rfl), TX11, 40, rfl⟩
theorem w_X11_weather : MV mX11_weather 10 0 := ⟨⟨(in6 225 (by decide +kernel) rfl), (in1 11 (by decide +kernel) rfl), ⟨by decide +kernel, by decide +kernel⟩, by decide +kernel⟩, (in6 224 (by decide +kernel) rfl), (big_sel (List.mem_of_getElem? (i := 61) (by decide +kernel)) rfl), TX11, 40, rfl⟩
theorem w_X11_chalet : MV mX11_chalet 10 1 := ⟨⟨(in6 121 (by decide +kernel) rfl), (in1 11 (by decide +kernel) rfl), ⟨by decide +kernel, by decide +kernel⟩, by decide +kernel⟩, (in6 119 (by decide +kernel) rfl), (in6 120 (by decide +kernel) rfl), TX11, 40, rfl⟩
theorem w_X11_begins : MV mX11_begins 10 2 := ⟨⟨(in7 21 (by decide +kernel) rfl), (in1 11 (by decide +kernel) rfl), ⟨by decide +kernel, by decide +kernel⟩, by decide +kernel⟩, (in7 20 (by decide +kernel) rfl), (big_sel (List.mem_of_getElem? (i := 67) (by decide +kernel)) rfl), TX11, 40, rfl⟩
theorem w_X11_isLine : MV mX11_isLine 10 2 := ⟨⟨(in6 194 (by decide +kernel) rfl), (in1 11 (by decide +kernel) rfl), ⟨by decide +kernel, by decide +kernel⟩, by decide +kernel⟩, (in6 193 (by decide +kernel) rfl), (big_sel (List.mem_of_getElem? (i := 55) (by decide +kernel)) rfl), TX11, 40, rfl⟩
theorem w_X11_readLine : MV mX11_readLine 10 0 := ⟨⟨(in6 150 (by decide +kernel) rfl), (in1 11 (by decide +kernel) rfl), ⟨by decide +kernel, by decide +kernel⟩, by decide +kernel⟩, (in6 149 (by decide +kernel) rfl), (big_sel (List.mem_of_getElem? (i := 46) (by decide +kernel)) rfl), TX11, 40, rfl⟩
theorem w_X11_chaletLine : MV mX11_chaletLine 10 0 := ⟨⟨(in6 161 (by decide +kernel) rfl), (in1 11 (by decide +kernel) rfl), ⟨by decide +kernel, by decide +kernel⟩, by decide +kernel⟩, (in6 160 (by decide +kernel) rfl), (big_sel (List.mem_of_getElem? (i := 48) (by decide +kernel)) rfl), TX11, 40, rfl⟩
theorem w_X11_weatherLine : MV mX11_weatherLine 10 0 := ⟨⟨(in6 198 (by decide +kernel) rfl), (in1 11 (by decide +kernel) rfl), ⟨by decide +kernel, by decide +kernel⟩, by decide +kernel⟩, (in6 197 (by decide +kernel) rfl), (big_sel (List.mem_of_getElem? (i := 56) (by decide +kernel)) rfl), TX11, 40, rfl⟩
theorem w_X11_ventLine : MV mX11_ventLine 10 0 := ⟨⟨(in6 205 (by decide +kernel) rfl), (in1 11 (by decide +kernel) rfl), ⟨by decide +kernel, by decide +kernel⟩, by decide +kernel⟩, (in6 204 (by decide +kernel) rfl), (big_sel (List.mem_of_getElem? (i := 57) (by decide +kernel)) rfl), TX11, 40, rfl⟩
theorem w_X11_planLine : MV mX11_planLine 10 0 := ⟨⟨(in6 230 (by decide +kernel) rfl), (in1 11 (by decide +kernel) rfl), ⟨by decide +kernel, by decide +kernel⟩, by decide +kernel⟩, (in6 229 (by decide +kernel) rfl), (big_sel (List.mem_of_getElem? (i := 62) (by decide +kernel)) rfl), TX11, 40, rfl⟩
theorem w_X11_sawLine : MV mX11_sawLine 10 0 := ⟨⟨(in6 236 (by decide +kernel) rfl), (in1 11 (by decide +kernel) rfl), ⟨by decide +kernel, by decide +kernel⟩, by decide +kernel⟩, (in6 235 (by decide +kernel) rfl), (big_sel (List.mem_of_getElem? (i := 63) (by decide +kernel)) rfl), TX11, 40, rfl⟩
theorem w_X11_fieldLine : MV mX11_fieldLine 10 0 := ⟨⟨(in7 5 (by decide +kernel) rfl), (in1 11 (by decide +kernel) rfl), ⟨by decide +kernel, by decide +kernel⟩, by decide +kernel⟩, (in7 4 (by decide +kernel) rfl), (big_sel (List.mem_of_getElem? (i := 64) (by decide +kernel)) rfl), TX11, 40, rfl⟩
theorem w_X11_ditchLine : MV mX11_ditchLine 10 0 := ⟨⟨(in7 9 (by decide +kernel) rfl), (in1 11 (by decide +kernel) rfl), ⟨by decide +kernel, by decide +kernel⟩, by decide +kernel⟩, (in7 8 (by decide +kernel) rfl), (big_sel (List.mem_of_getElem? (i := 65) (by decide +kernel)) rfl), TX11, 40, rfl⟩
theorem w_X11_fault : MV mX11_fault 10 0 := ⟨⟨(in7 25 (by decide +kernel) rfl), (in1 11 (by decide +kernel) rfl), ⟨by decide +kernel, by decide +kernel⟩, by decide +kernel⟩, (in7 23 (by decide +kernel) rfl), (in7 24 (by decide +kernel) rfl), TX11, 40, rfl⟩
theorem w_X11_where : MV mX11_where 10 0 := ⟨⟨(in7 29 (by decide +kernel) rfl), (in1 11 (by decide +kernel) rfl), ⟨by decide +kernel, by decide +kernel⟩, by decide +kernel⟩, (in7 27 (by decide +kernel) rfl), (in7 28 (by decide +kernel) rfl), TX11, 40, rfl⟩
theorem w_X11_whoOf : MSt mX11_whoOf 1 := ⟨⟨(in7 36 (by decide +kernel) rfl), (in1 11 (by decide +kernel) rfl), ⟨by decide +kernel, by decide +kernel⟩, by decide +kernel⟩, (in7 35 (by decide +kernel) rfl)⟩
theorem w_X11_towards : MSt mX11_towards 1 := ⟨⟨(in7 39 (by decide +kernel) rfl), (in1 11 (by decide +kernel) rfl), ⟨by decide +kernel, by decide +kernel⟩, by decide +kernel⟩, (in7 38 (by decide +kernel) rfl)⟩
theorem w_X11_bound : MSt mX11_bound 1 := ⟨⟨(in7 73 (by decide +kernel) rfl), (in1 11 (by decide +kernel) rfl), ⟨by decide +kernel, by decide +kernel⟩, by decide +kernel⟩, (in7 72 (by decide +kernel) rfl)⟩
theorem w_X11_stepOf : MSt mX11_stepOf 3 := ⟨⟨(in7 76 (by decide +kernel) rfl), (in1 11 (by decide +kernel) rfl), ⟨by decide +kernel, by decide +kernel⟩, by decide +kernel⟩, (in7 75 (by decide +kernel) rfl)⟩
theorem w_X11_nearer : MSt mX11_nearer 3 := ⟨⟨(in7 79 (by decide +kernel) rfl), (in1 11 (by decide +kernel) rfl), ⟨by decide +kernel, by decide +kernel⟩, by decide +kernel⟩, (in7 78 (by decide +kernel) rfl)⟩
theorem w_X11_pullOf : MV mX11_pullOf 10 1 := ⟨⟨(in7 67 (by decide +kernel) rfl), (in1 11 (by decide +kernel) rfl), ⟨by decide +kernel, by decide +kernel⟩, by decide +kernel⟩, (in7 66 (by decide +kernel) rfl), (big_sel (List.mem_of_getElem? (i := 72) (by decide +kernel)) rfl), TX11, 40, rfl⟩
theorem w_X11_dayBy : MV mX11_dayBy 10 2 := ⟨⟨(in7 63 (by decide +kernel) rfl), (in1 11 (by decide +kernel) rfl), ⟨by decide +kernel, by decide +kernel⟩, by decide +kernel⟩, (in7 62 (by decide +kernel) rfl), (big_sel (List.mem_of_getElem? (i := 71) (by decide +kernel)) rfl), TX11, 40, rfl⟩
theorem w_X11_dayOf : MV mX11_dayOf 10 1 := ⟨⟨(in7 59 (by decide +kernel) rfl), (in1 11 (by decide +kernel) rfl), ⟨by decide +kernel, by decide +kernel⟩, by decide +kernel⟩, (in7 58 (by decide +kernel) rfl), (big_sel (List.mem_of_getElem? (i := 70) (by decide +kernel)) rfl), TX11, 40, rfl⟩
theorem w_X11_begin : MV mX11_begin 10 0 := ⟨⟨(in7 55 (by decide +kernel) rfl), (in1 11 (by decide +kernel) rfl), ⟨by decide +kernel, by decide +kernel⟩, by decide +kernel⟩, (in7 54 (by decide +kernel) rfl), (big_sel (List.mem_of_getElem? (i := 69) (by decide +kernel)) rfl), TX11, 40, rfl⟩
theorem w_X11_goOver : MV mX11_goOver 10 1 := ⟨⟨(in7 99 (by decide +kernel) rfl), (in1 11 (by decide +kernel) rfl), ⟨by decide +kernel, by decide +kernel⟩, by decide +kernel⟩, (in7 98 (by decide +kernel) rfl), (big_sel (List.mem_of_getElem? (i := 74) (by decide +kernel)) rfl), TX11, 40, rfl⟩
theorem w_X11_worthsOf : MV mX11_worthsOf 10 3 := ⟨⟨(in7 127 (by decide +kernel) rfl), (in1 11 (by decide +kernel) rfl), ⟨by decide +kernel, by decide +kernel⟩, by decide +kernel⟩, (in7 126 (by decide +kernel) rfl), (big_sel (List.mem_of_getElem? (i := 75) (by decide +kernel)) rfl), TX11, 40, rfl⟩
theorem w_X11_beam : MV mX11_beam 10 1 := ⟨⟨(in7 33 (by decide +kernel) rfl), (in1 11 (by decide +kernel) rfl), ⟨by decide +kernel, by decide +kernel⟩, by decide +kernel⟩, (in7 31 (by decide +kernel) rfl), (in7 32 (by decide +kernel) rfl), TX11, 40, rfl⟩
theorem w_X11_isVent : MV mX11_isVent 10 1 := ⟨⟨(in7 47 (by decide +kernel) rfl), (in1 11 (by decide +kernel) rfl), ⟨by decide +kernel, by decide +kernel⟩, by decide +kernel⟩, (in7 46 (by decide +kernel) rfl), (big_sel (List.mem_of_getElem? (i := 68) (by decide +kernel)) rfl), TX11, 40, rfl⟩
theorem w_X11_vent : MV mX11_vent 10 2 := ⟨⟨(in7 43 (by decide +kernel) rfl), (in1 11 (by decide +kernel) rfl), ⟨by decide +kernel, by decide +kernel⟩, by decide +kernel⟩, (in7 41 (by decide +kernel) rfl), (in7 42 (by decide +kernel) rfl), TX11, 40, rfl⟩
theorem w_X11_plan : MV mX11_plan 10 2 := ⟨⟨(in7 51 (by decide +kernel) rfl), (in1 11 (by decide +kernel) rfl), ⟨by decide +kernel, by decide +kernel⟩, by decide +kernel⟩, (in7 49 (by decide +kernel) rfl), (in7 50 (by decide +kernel) rfl), TX11, 40, rfl⟩
theorem w_X11_why : MV mX11_why 10 3 := ⟨⟨(in7 87 (by decide +kernel) rfl), (in1 11 (by decide +kernel) rfl), ⟨by decide +kernel, by decide +kernel⟩, by decide +kernel⟩, (in7 86 (by decide +kernel) rfl), (big_sel (List.mem_of_getElem? (i := 73) (by decide +kernel)) rfl), TX11, 40, rfl⟩
theorem w_X11_goes : MV mX11_goes 10 1 := ⟨⟨(in7 83 (by decide +kernel) rfl), (in1 11 (by decide +kernel) rfl), ⟨by decide +kernel, by decide +kernel⟩, by decide +kernel⟩, (in7 81 (by decide +kernel) rfl), (in7 82 (by decide +kernel) rfl), TX11, 40, rfl⟩
theorem w_X11_stays : MV mX11_stays 10 0 := ⟨⟨(in7 91 (by decide +kernel) rfl), (in1 11 (by decide +kernel) rfl), ⟨by decide +kernel, by decide +kernel⟩, by decide +kernel⟩, (in7 89 (by decide +kernel) rfl), (in7 90 (by decide +kernel) rfl), TX11, 40, rfl⟩
theorem w_X11_angleIn : MV mX11_angleIn 10 1 := ⟨⟨(in7 95 (by decide +kernel) rfl), (in1 11 (by decide +kernel) rfl), ⟨by decide +kernel, by decide +kernel⟩, by decide +kernel⟩, (in7 93 (by decide +kernel) rfl), (in7 94 (by decide +kernel) rfl), TX11, 40, rfl⟩
theorem w_X11_dampIn : MV mX11_dampIn 10 1 := ⟨⟨(in7 103 (by decide +kernel) rfl), (in1 11 (by decide +kernel) rfl), ⟨by decide +kernel, by decide +kernel⟩, by decide +kernel⟩, (in7 101 (by decide +kernel) rfl), (in7 102 (by decide +kernel) rfl), TX11, 40, rfl⟩
theorem w_X11_whoIn : MV mX11_whoIn 10 1 := ⟨⟨(in7 107 (by decide +kernel) rfl), (in1 11 (by decide +kernel) rfl), ⟨by decide +kernel, by decide +kernel⟩, by decide +kernel⟩, (in7 105 (by decide +kernel) rfl), (in7 106 (by decide +kernel) rfl), TX11, 40, rfl⟩
theorem w_X11_daysOf : MV mX11_daysOf 10 2 := ⟨⟨(in7 111 (by decide +kernel) rfl), (in1 11 (by decide +kernel) rfl), ⟨by decide +kernel, by decide +kernel⟩, by decide +kernel⟩, (in7 109 (by decide +kernel) rfl), (in7 110 (by decide +kernel) rfl), TX11, 40, rfl⟩
theorem w_X11_when : MV mX11_when 10 1 := ⟨⟨(in7 115 (by decide +kernel) rfl), (in1 11 (by decide +kernel) rfl), ⟨by decide +kernel, by decide +kernel⟩, by decide +kernel⟩, (in7 113 (by decide +kernel) rfl), (in7 114 (by decide +kernel) rfl), TX11, 40, rfl⟩
theorem w_X11_round : MV mX11_round 10 0 := ⟨⟨(in7 119 (by decide +kernel) rfl), (in1 11 (by decide +kernel) rfl), ⟨by decide +kernel, by decide +kernel⟩, by decide +kernel⟩, (in7 117 (by decide +kernel) rfl), (in7 118 (by decide +kernel) rfl), TX11, 40, rfl⟩
theorem w_X11_kept : MV mX11_kept 10 1 := ⟨⟨(in7 123 (by decide +kernel) rfl), (in1 11 (by decide +kernel) rfl), ⟨by decide +kernel, by decide +kernel⟩, by decide +kernel⟩, (in7 121 (by decide +kernel) rfl), (in7 122 (by decide +kernel) rfl), TX11, 40, rfl⟩
theorem w_X11_goBy : MV mX11_goBy 10 2 := ⟨⟨(in7 143 (by decide +kernel) rfl), (in1 11 (by decide +kernel) rfl), ⟨by decide +kernel, by decide +kernel⟩, by decide +kernel⟩, (in7 142 (by decide +kernel) rfl), (big_sel (List.mem_of_getElem? (i := 78) (by decide +kernel)) rfl), TX11, 40, rfl⟩
theorem w_X11_worthBy : MV mX11_worthBy 10 2 := ⟨⟨(in7 139 (by decide +kernel) rfl), (in1 11 (by decide +kernel) rfl), ⟨by decide +kernel, by decide +kernel⟩, by decide +kernel⟩, (in7 138 (by decide +kernel) rfl), (big_sel (List.mem_of_getElem? (i := 77) (by decide +kernel)) rfl), TX11, 40, rfl⟩
theorem w_X11_isRowOf : MV mX11_isRowOf 10 2 := ⟨⟨(in7 135 (by decide +kernel) rfl), (in1 11 (by decide +kernel) rfl), ⟨by decide +kernel, by decide +kernel⟩, by decide +kernel⟩, (in7 134 (by decide +kernel) rfl), (big_sel (List.mem_of_getElem? (i := 76) (by decide +kernel)) rfl), TX11, 40, rfl⟩
theorem w_X11_worthOf : MV mX11_worthOf 10 2 := ⟨⟨(in7 131 (by decide +kernel) rfl), (in1 11 (by decide +kernel) rfl), ⟨by decide +kernel, by decide +kernel⟩, by decide +kernel⟩, (in7 129 (by decide +kernel) rfl), (in7 130 (by decide +kernel) rfl), TX11, 40, rfl⟩
theorem w_X11_rowsFor : MSt mX11_rowsFor 1 := ⟨⟨(in7 154 (by decide +kernel) rfl), (in1 11 (by decide +kernel) rfl), ⟨by decide +kernel, by decide +kernel⟩, by decide +kernel⟩, (in7 153 (by decide +kernel) rfl)⟩
theorem w_X11_bestOf : MV mX11_bestOf 10 1 := ⟨⟨(in7 151 (by decide +kernel) rfl), (in1 11 (by decide +kernel) rfl), ⟨by decide +kernel, by decide +kernel⟩, by decide +kernel⟩, (in7 150 (by decide +kernel) rfl), (big_sel (List.mem_of_getElem? (i := 79) (by decide +kernel)) rfl), TX11, 40, rfl⟩
theorem w_X11_bestRow : MV mX11_bestRow 10 1 := ⟨⟨(in7 147 (by decide +kernel) rfl), (in1 11 (by decide +kernel) rfl), ⟨by decide +kernel, by decide +kernel⟩, by decide +kernel⟩, (in7 145 (by decide +kernel) rfl), (in7 146 (by decide +kernel) rfl), TX11, 40, rfl⟩
theorem w_X11_bestWorth : MV mX11_bestWorth 10 1 := ⟨⟨(in7 159 (by decide +kernel) rfl), (in1 11 (by decide +kernel) rfl), ⟨by decide +kernel, by decide +kernel⟩, by decide +kernel⟩, (in7 157 (by decide +kernel) rfl), (in7 158 (by decide +kernel) rfl), TX11, 40, rfl⟩
theorem w_X11_areAllKept : MV mX11_areAllKept 10 2 := ⟨⟨(in7 171 (by decide +kernel) rfl), (in1 11 (by decide +kernel) rfl), ⟨by decide +kernel, by decide +kernel⟩, by decide +kernel⟩, (in7 170 (by decide +kernel) rfl), (big_sel (List.mem_of_getElem? (i := 81) (by decide +kernel)) rfl), TX11, 40, rfl⟩
theorem w_X11_sureOf : MV mX11_sureOf 10 1 := ⟨⟨(in7 167 (by decide +kernel) rfl), (in1 11 (by decide +kernel) rfl), ⟨by decide +kernel, by decide +kernel⟩, by decide +kernel⟩, (in7 166 (by decide +kernel) rfl), (big_sel (List.mem_of_getElem? (i := 80) (by decide +kernel)) rfl), TX11, 40, rfl⟩
theorem w_X11_sureRow : MV mX11_sureRow 10 1 := ⟨⟨(in7 163 (by decide +kernel) rfl), (in1 11 (by decide +kernel) rfl), ⟨by decide +kernel, by decide +kernel⟩, by decide +kernel⟩, (in7 161 (by decide +kernel) rfl), (in7 162 (by decide +kernel) rfl), TX11, 40, rfl⟩
theorem w_X11_sureCoins : MV mX11_sureCoins 10 1 := ⟨⟨(in7 175 (by decide +kernel) rfl), (in1 11 (by decide +kernel) rfl), ⟨by decide +kernel, by decide +kernel⟩, by decide +kernel⟩, (in7 173 (by decide +kernel) rfl), (in7 174 (by decide +kernel) rfl), TX11, 40, rfl⟩
theorem w_X11_ventsIn : MSt mX11_ventsIn 1 := ⟨⟨(in7 182 (by decide +kernel) rfl), (in1 11 (by decide +kernel) rfl), ⟨by decide +kernel, by decide +kernel⟩, by decide +kernel⟩, (in7 181 (by decide +kernel) rfl)⟩
theorem w_X11_rowFor : MV mX11_rowFor 10 2 := ⟨⟨(in7 179 (by decide +kernel) rfl), (in1 11 (by decide +kernel) rfl), ⟨by decide +kernel, by decide +kernel⟩, by decide +kernel⟩, (in7 177 (by decide +kernel) rfl), (in7 178 (by decide +kernel) rfl), TX11, 40, rfl⟩
theorem w_X11_layOuts : MV mX11_layOuts 10 1 := ⟨⟨(in7 194 (by decide +kernel) rfl), (in1 11 (by decide +kernel) rfl), ⟨by decide +kernel, by decide +kernel⟩, by decide +kernel⟩, (in7 193 (by decide +kernel) rfl), (big_sel (List.mem_of_getElem? (i := 83) (by decide +kernel)) rfl), TX11, 40, rfl⟩
theorem w_X11_wrongSeen : MV mX11_wrongSeen 10 0 := ⟨⟨(in7 198 (by decide +kernel) rfl), (in1 11 (by decide +kernel) rfl), ⟨by decide +kernel, by decide +kernel⟩, by decide +kernel⟩, (in7 197 (by decide +kernel) rfl), (big_sel (List.mem_of_getElem? (i := 84) (by decide +kernel)) rfl), TX11, 40, rfl⟩
theorem w_X11_seekMakes : MV mX11_seekMakes 10 1 := ⟨⟨(in7 190 (by decide +kernel) rfl), (in1 11 (by decide +kernel) rfl), ⟨by decide +kernel, by decide +kernel⟩, by decide +kernel⟩, (in7 189 (by decide +kernel) rfl), (big_sel (List.mem_of_getElem? (i := 82) (by decide +kernel)) rfl), TX11, 40, rfl⟩
theorem w_X11_makes : MV mX11_makes 10 0 := ⟨⟨(in7 186 (by decide +kernel) rfl), (in1 11 (by decide +kernel) rfl), ⟨by decide +kernel, by decide +kernel⟩, by decide +kernel⟩, (in7 184 (by decide +kernel) rfl), (in7 185 (by decide +kernel) rfl), TX11, 40, rfl⟩
theorem w_X11_makeAt : MV mX11_makeAt 10 1 := ⟨⟨(in7 202 (by decide +kernel) rfl), (in1 11 (by decide +kernel) rfl), ⟨by decide +kernel, by decide +kernel⟩, by decide +kernel⟩, (in7 200 (by decide +kernel) rfl), (in7 201 (by decide +kernel) rfl), TX11, 40, rfl⟩
theorem w_X11_could : MV mX11_could 10 1 := ⟨⟨(in7 206 (by decide +kernel) rfl), (in1 11 (by decide +kernel) rfl), ⟨by decide +kernel, by decide +kernel⟩, by decide +kernel⟩, (in7 204 (by decide +kernel) rfl), (in7 205 (by decide +kernel) rfl), TX11, 40, rfl⟩
theorem w_X11_surely : MV mX11_surely 10 1 := ⟨⟨(in7 210 (by decide +kernel) rfl), (in1 11 (by decide +kernel) rfl), ⟨by decide +kernel, by decide +kernel⟩, by decide +kernel⟩, (in7 208 (by decide +kernel) rfl), (in7 209 (by decide +kernel) rfl), TX11, 40, rfl⟩
theorem w_X11_lookOf : MV mX11_lookOf 10 0 := ⟨⟨(in7 218 (by decide +kernel) rfl), (in1 11 (by decide +kernel) rfl), ⟨by decide +kernel, by decide +kernel⟩, by decide +kernel⟩, (in7 217 (by decide +kernel) rfl), (big_sel (List.mem_of_getElem? (i := 85) (by decide +kernel)) rfl), TX11, 40, rfl⟩
theorem w_X11_look : MV mX11_look 10 0 := ⟨⟨(in7 214 (by decide +kernel) rfl), (in1 11 (by decide +kernel) rfl), ⟨by decide +kernel, by decide +kernel⟩, by decide +kernel⟩, (in7 212 (by decide +kernel) rfl), (in7 213 (by decide +kernel) rfl), TX11, 40, rfl⟩
theorem w_X11_lookLeaves : MV mX11_lookLeaves 10 0 := ⟨⟨(in7 222 (by decide +kernel) rfl), (in1 11 (by decide +kernel) rfl), ⟨by decide +kernel, by decide +kernel⟩, by decide +kernel⟩, (in7 220 (by decide +kernel) rfl), (in7 221 (by decide +kernel) rfl), TX11, 40, rfl⟩
theorem w_X11_judge : MV mX11_judge 10 0 := ⟨⟨(in7 226 (by decide +kernel) rfl), (in1 11 (by decide +kernel) rfl), ⟨by decide +kernel, by decide +kernel⟩, by decide +kernel⟩, (in7 224 (by decide +kernel) rfl), (in7 225 (by decide +kernel) rfl), TX11, 40, rfl⟩
theorem w_X11_layLevel : MV mX11_layLevel 10 2 := ⟨⟨(in7 239 (by decide +kernel) rfl), (in1 11 (by decide +kernel) rfl), ⟨by decide +kernel, by decide +kernel⟩, by decide +kernel⟩, (in7 238 (by decide +kernel) rfl), (big_sel (List.mem_of_getElem? (i := 87) (by decide +kernel)) rfl), TX11, 40, rfl⟩
theorem w_X11_valueFrom : MV mX11_valueFrom 10 2 := ⟨⟨(in7 234 (by decide +kernel) rfl), (in1 11 (by decide +kernel) rfl), ⟨by decide +kernel, by decide +kernel⟩, by decide +kernel⟩, (in7 233 (by decide +kernel) rfl), (big_sel (List.mem_of_getElem? (i := 86) (by decide +kernel)) rfl), TX11, 40, rfl⟩
theorem w_X11_value : MV mX11_value 10 1 := ⟨⟨(in7 230 (by decide +kernel) rfl), (in1 11 (by decide +kernel) rfl), ⟨by decide +kernel, by decide +kernel⟩, by decide +kernel⟩, (in7 228 (by decide +kernel) rfl), (in7 229 (by decide +kernel) rfl), TX11, 40, rfl⟩
theorem w_X11_opens : MV mX11_opens 10 1 := ⟨⟨(in8 3 (by decide +kernel) rfl), (in1 11 (by decide +kernel) rfl), ⟨by decide +kernel, by decide +kernel⟩, by decide +kernel⟩, (in8 1 (by decide +kernel) rfl), (in8 2 (by decide +kernel) rfl), TX11, 40, rfl⟩
theorem w_X11_carriesOf : MV mX11_carriesOf 10 1 := ⟨⟨(in8 23 (by decide +kernel) rfl), (in1 11 (by decide +kernel) rfl), ⟨by decide +kernel, by decide +kernel⟩, by decide +kernel⟩, (in8 22 (by decide +kernel) rfl), (big_sel (List.mem_of_getElem? (i := 91) (by decide +kernel)) rfl), TX11, 40, rfl⟩
theorem w_X11_acrossOf : MV mX11_acrossOf 10 1 := ⟨⟨(in8 19 (by decide +kernel) rfl), (in1 11 (by decide +kernel) rfl), ⟨by decide +kernel, by decide +kernel⟩, by decide +kernel⟩, (in8 18 (by decide +kernel) rfl), (big_sel (List.mem_of_getElem? (i := 90) (by decide +kernel)) rfl), TX11, 40, rfl⟩
theorem w_X11_cutOf : MV mX11_cutOf 10 0 := ⟨⟨(in8 15 (by decide +kernel) rfl), (in1 11 (by decide +kernel) rfl), ⟨by decide +kernel, by decide +kernel⟩, by decide +kernel⟩, (in8 14 (by decide +kernel) rfl), (big_sel (List.mem_of_getElem? (i := 89) (by decide +kernel)) rfl), TX11, 40, rfl⟩
theorem w_X11_floodBy : MV mX11_floodBy 10 2 := ⟨⟨(in8 11 (by decide +kernel) rfl), (in1 11 (by decide +kernel) rfl), ⟨by decide +kernel, by decide +kernel⟩, by decide +kernel⟩, (in8 10 (by decide +kernel) rfl), (big_sel (List.mem_of_getElem? (i := 88) (by decide +kernel)) rfl), TX11, 40, rfl⟩
theorem w_X11_flood : MV mX11_flood 10 0 := ⟨⟨(in8 7 (by decide +kernel) rfl), (in1 11 (by decide +kernel) rfl), ⟨by decide +kernel, by decide +kernel⟩, by decide +kernel⟩, (in8 5 (by decide +kernel) rfl), (in8 6 (by decide +kernel) rfl), TX11, 40, rfl⟩
theorem w_X11_cut : MV mX11_cut 10 0 := ⟨⟨(in8 27 (by decide +kernel) rfl), (in1 11 (by decide +kernel) rfl), ⟨by decide +kernel, by decide +kernel⟩, by decide +kernel⟩, (in8 25 (by decide +kernel) rfl), (in8 26 (by decide +kernel) rfl), TX11, 40, rfl⟩
theorem w_X11_floodIf : MV mX11_floodIf 10 2 := ⟨⟨(in8 31 (by decide +kernel) rfl), (in1 11 (by decide +kernel) rfl), ⟨by decide +kernel, by decide +kernel⟩, by decide +kernel⟩, (in8 29 (by decide +kernel) rfl), (in8 30 (by decide +kernel) rfl), TX11, 40, rfl⟩
theorem w_X11_narrow : MV mX11_narrow 10 0 := ⟨⟨(in8 35 (by decide +kernel) rfl), (in1 11 (by decide +kernel) rfl), ⟨by decide +kernel, by decide +kernel⟩, by decide +kernel⟩, (in8 33 (by decide +kernel) rfl), (in8 34 (by decide +kernel) rfl), TX11, 40, rfl⟩
theorem w_X11_downhill : MV mX11_downhill 10 1 := ⟨⟨(in8 39 (by decide +kernel) rfl), (in1 11 (by decide +kernel) rfl), ⟨by decide +kernel, by decide +kernel⟩, by decide +kernel⟩, (in8 37 (by decide +kernel) rfl), (in8 38 (by decide +kernel) rfl), TX11, 40, rfl⟩
theorem w_X11_gust : MSt mX11_gust 1 := ⟨⟨(in8 51 (by decide +kernel) rfl), (in1 11 (by decide +kernel) rfl), ⟨by decide +kernel, by decide +kernel⟩, by decide +kernel⟩, (in8 50 (by decide +kernel) rfl)⟩
theorem w_X11_tryGusts : MV mX11_tryGusts 10 1 := ⟨⟨(in8 47 (by decide +kernel) rfl), (in1 11 (by decide +kernel) rfl), ⟨by decide +kernel, by decide +kernel⟩, by decide +kernel⟩, (in8 46 (by decide +kernel) rfl), (big_sel (List.mem_of_getElem? (i := 92) (by decide +kernel)) rfl), TX11, 40, rfl⟩
theorem w_X11_likely : MV mX11_likely 10 3 := ⟨⟨(in8 43 (by decide +kernel) rfl), (in1 11 (by decide +kernel) rfl), ⟨by decide +kernel, by decide +kernel⟩, by decide +kernel⟩, (in8 41 (by decide +kernel) rfl), (in8 42 (by decide +kernel) rfl), TX11, 40, rfl⟩
theorem w_X11_mean : MV mX11_mean 10 2 := ⟨⟨(in8 58 (by decide +kernel) rfl), (in1 11 (by decide +kernel) rfl), ⟨by decide +kernel, by decide +kernel⟩, by decide +kernel⟩, (in8 56 (by decide +kernel) rfl), (in8 57 (by decide +kernel) rfl), TX11, 40, rfl⟩
theorem w_X11_gustWhy : MV mX11_gustWhy 10 2 := ⟨⟨(in8 66 (by decide +kernel) rfl), (in1 11 (by decide +kernel) rfl), ⟨by decide +kernel, by decide +kernel⟩, by decide +kernel⟩, (in8 65 (by decide +kernel) rfl), (big_sel (List.mem_of_getElem? (i := 93) (by decide +kernel)) rfl), TX11, 40, rfl⟩
theorem w_X11_gusted : MV mX11_gusted 10 2 := ⟨⟨(in8 62 (by decide +kernel) rfl), (in1 11 (by decide +kernel) rfl), ⟨by decide +kernel, by decide +kernel⟩, by decide +kernel⟩, (in8 60 (by decide +kernel) rfl), (in8 61 (by decide +kernel) rfl), TX11, 40, rfl⟩
theorem w_X11_wetIn : MV mX11_wetIn 10 2 := ⟨⟨(in8 72 (by decide +kernel) rfl), (in1 11 (by decide +kernel) rfl), ⟨by decide +kernel, by decide +kernel⟩, by decide +kernel⟩, (in8 70 (by decide +kernel) rfl), (in8 71 (by decide +kernel) rfl), TX11, 40, rfl⟩
theorem w_X11_note : MV mX11_note 10 0 := ⟨⟨(in8 84 (by decide +kernel) rfl), (in1 11 (by decide +kernel) rfl), ⟨by decide +kernel, by decide +kernel⟩, by decide +kernel⟩, (in8 83 (by decide +kernel) rfl), (big_sel (List.mem_of_getElem? (i := 95) (by decide +kernel)) rfl), TX11, 40, rfl⟩
theorem w_X11_open : MV mX11_open 10 1 := ⟨⟨(in8 76 (by decide +kernel) rfl), (in1 11 (by decide +kernel) rfl), ⟨by decide +kernel, by decide +kernel⟩, by decide +kernel⟩, (in8 74 (by decide +kernel) rfl), (in8 75 (by decide +kernel) rfl), TX11, 40, rfl⟩
theorem w_X11_oil : MV mX11_oil 10 0 := ⟨⟨(in8 88 (by decide +kernel) rfl), (in1 11 (by decide +kernel) rfl), ⟨by decide +kernel, by decide +kernel⟩, by decide +kernel⟩, (in8 86 (by decide +kernel) rfl), (in8 87 (by decide +kernel) rfl), TX11, 40, rfl⟩
theorem w_X11_day : MV mX11_day 10 0 := ⟨⟨(in8 92 (by decide +kernel) rfl), (in1 11 (by decide +kernel) rfl), ⟨by decide +kernel, by decide +kernel⟩, by decide +kernel⟩, (in8 90 (by decide +kernel) rfl), (in8 91 (by decide +kernel) rfl), TX11, 40, rfl⟩
theorem w_X11_undo : MV mX11_undo 10 0 := ⟨⟨(in8 96 (by decide +kernel) rfl), (in1 11 (by decide +kernel) rfl), ⟨by decide +kernel, by decide +kernel⟩, by decide +kernel⟩, (in8 94 (by decide +kernel) rfl), (in8 95 (by decide +kernel) rfl), TX11, 40, rfl⟩
theorem w_X11_image : MV mX11_image 10 0 := ⟨⟨(in8 100 (by decide +kernel) rfl), (in1 11 (by decide +kernel) rfl), ⟨by decide +kernel, by decide +kernel⟩, by decide +kernel⟩, (in8 98 (by decide +kernel) rfl), (in8 99 (by decide +kernel) rfl), TX11, 40, rfl⟩
theorem w_X11_back : MV mX11_back 10 1 := ⟨⟨(in8 104 (by decide +kernel) rfl), (in1 11 (by decide +kernel) rfl), ⟨by decide +kernel, by decide +kernel⟩, by decide +kernel⟩, (in8 102 (by decide +kernel) rfl), (in8 103 (by decide +kernel) rfl), TX11, 40, rfl⟩
theorem w_X11_led : MV mX11_led 10 1 := ⟨⟨(in8 108 (by decide +kernel) rfl), (in1 11 (by decide +kernel) rfl), ⟨by decide +kernel, by decide +kernel⟩, by decide +kernel⟩, (in8 106 (by decide +kernel) rfl), (in8 107 (by decide +kernel) rfl), TX11, 40, rfl⟩
theorem w_X11_size : MV mX11_size 10 1 := ⟨⟨(in8 112 (by decide +kernel) rfl), (in1 11 (by decide +kernel) rfl), ⟨by decide +kernel, by decide +kernel⟩, by decide +kernel⟩, (in8 110 (by decide +kernel) rfl), (in8 111 (by decide +kernel) rfl), TX11, 40, rfl⟩
theorem w_X11_trouble : MV mX11_trouble 10 0 := ⟨⟨(in8 116 (by decide +kernel) rfl), (in1 11 (by decide +kernel) rfl), ⟨by decide +kernel, by decide +kernel⟩, by decide +kernel⟩, (in8 114 (by decide +kernel) rfl), (in8 115 (by decide +kernel) rfl), TX11, 40, rfl⟩
theorem w_J9_max_7cf53 : MSt mJ9_max_7cf53 2 := ⟨⟨(in3 226 (by decide +kernel) rfl), (in1 12 (by decide +kernel) rfl), ⟨by decide +kernel, by decide +kernel⟩, by decide +kernel⟩, (in3 225 (by decide +kernel) rfl)⟩
theorem w_J9_min_7cf53 : MSt mJ9_min_7cf53 2 := ⟨⟨(in2 191 (by decide +kernel) rfl), (in1 12 (by decide +kernel) rfl), ⟨by decide +kernel, by decide +kernel⟩, by decide +kernel⟩, (in2 190 (by decide +kernel) rfl)⟩
theorem w_J0_length_8abf5 : MW mJ0_length_8abf5 0 ∧ Cond.instanceMethod mJ0_length_8abf5.1 ∈ BIG ∧ Cond.selects mJ0_length_8abf5.1.cls mJ0_length_8abf5.1 mJ0_length_8abf5.1 ∈ BIG := ⟨⟨(in2 229 (by decide +kernel) rfl), (in1 13 (by decide +kernel) rfl), ⟨by decide +kernel, by decide +kernel⟩, by decide +kernel⟩, (in2 227 (by decide +kernel) rfl), (in2 228 (by decide +kernel) rfl)⟩
theorem w_J0_charAt_5068e : MW mJ0_charAt_5068e 1 ∧ Cond.instanceMethod mJ0_charAt_5068e.1 ∈ BIG ∧ Cond.selects mJ0_charAt_5068e.1.cls mJ0_charAt_5068e.1 mJ0_charAt_5068e.1 ∈ BIG := ⟨⟨(in2 239 (by decide +kernel) rfl), (in1 13 (by decide +kernel) rfl), ⟨by decide +kernel, by decide +kernel⟩, by decide +kernel⟩, (in2 237 (by decide +kernel) rfl), (in2 238 (by decide +kernel) rfl)⟩
theorem w_J0_coder_7d493 : MW mJ0_coder_7d493 0 ∧ Cond.instanceMethod mJ0_coder_7d493.1 ∈ BIG ∧ Cond.selects mJ0_coder_7d493.1.cls mJ0_coder_7d493.1 mJ0_coder_7d493.1 ∈ BIG := ⟨⟨(in2 233 (by decide +kernel) rfl), (in1 13 (by decide +kernel) rfl), ⟨by decide +kernel, by decide +kernel⟩, by decide +kernel⟩, (in2 231 (by decide +kernel) rfl), (in2 232 (by decide +kernel) rfl)⟩
theorem w_J0_isLatin1_aae02 : MW mJ0_isLatin1_aae02 0 ∧ Cond.instanceMethod mJ0_isLatin1_aae02.1 ∈ BIG ∧ Cond.selects mJ0_isLatin1_aae02.1.cls mJ0_isLatin1_aae02.1 mJ0_isLatin1_aae02.1 ∈ BIG := ⟨⟨(in3 3 (by decide +kernel) rfl), (in1 13 (by decide +kernel) rfl), ⟨by decide +kernel, by decide +kernel⟩, by decide +kernel⟩, (in3 1 (by decide +kernel) rfl), (in3 2 (by decide +kernel) rfl)⟩
theorem w_J0_checkIndex_df160 : MSt mJ0_checkIndex_df160 2 := ⟨⟨(in3 9 (by decide +kernel) rfl), (in1 13 (by decide +kernel) rfl), ⟨by decide +kernel, by decide +kernel⟩, by decide +kernel⟩, (in3 8 (by decide +kernel) rfl)⟩
theorem w_J1_charAt_3b067 : MSt mJ1_charAt_3b067 2 := ⟨⟨(in3 6 (by decide +kernel) rfl), (in1 14 (by decide +kernel) rfl), ⟨by decide +kernel, by decide +kernel⟩, by decide +kernel⟩, (in3 5 (by decide +kernel) rfl)⟩
theorem w_J2_getChar_3b067 : MSt mJ2_getChar_3b067 2 := ⟨⟨(in3 27 (by decide +kernel) rfl), (in1 16 (by decide +kernel) rfl), ⟨by decide +kernel, by decide +kernel⟩, by decide +kernel⟩, (in3 26 (by decide +kernel) rfl)⟩
theorem w_J2_length_9d52b : MSt mJ2_length_9d52b 1 := ⟨⟨(in3 23 (by decide +kernel) rfl), (in1 16 (by decide +kernel) rfl), ⟨by decide +kernel, by decide +kernel⟩, by decide +kernel⟩, (in3 22 (by decide +kernel) rfl)⟩
theorem w_J2_charAt_3b067 : MSt mJ2_charAt_3b067 2 := ⟨⟨(in3 17 (by decide +kernel) rfl), (in1 16 (by decide +kernel) rfl), ⟨by decide +kernel, by decide +kernel⟩, by decide +kernel⟩, (in3 16 (by decide +kernel) rfl)⟩
theorem w_J2_checkIndex_2214a : MSt mJ2_checkIndex_2214a 2 := ⟨⟨(in3 20 (by decide +kernel) rfl), (in1 16 (by decide +kernel) rfl), ⟨by decide +kernel, by decide +kernel⟩, by decide +kernel⟩, (in3 19 (by decide +kernel) rfl)⟩
theorem w_J7_fill_53178 : MSt mJ7_fill_53178 2 := ⟨⟨(in4 66 (by decide +kernel) rfl), (in1 17 (by decide +kernel) rfl), ⟨by decide +kernel, by decide +kernel⟩, by decide +kernel⟩, (in4 65 (by decide +kernel) rfl)⟩
theorem w_J3_checkIndex_8e157 : MSt mJ3_checkIndex_8e157 3 := ⟨⟨(in3 14 (by decide +kernel) rfl), (in1 15 (by decide +kernel) rfl), ⟨by decide +kernel, by decide +kernel⟩, by decide +kernel⟩, (in3 13 (by decide +kernel) rfl)⟩
theorem l_L_15 : ML RL 15 mX10_init := (in1 25 (by decide +kernel) rfl)
theorem l_X10_11 : ML RX10 11 mX6_init := (in1 33 (by decide +kernel) rfl)
theorem l_X6_11 : ML RX6 11 mX8_init := (in1 39 (by decide +kernel) rfl)
theorem l_X8_11 : ML RX8 11 mX7_init := (in1 45 (by decide +kernel) rfl)
theorem l_X10_18 : ML RX10 18 mX8_init := (in1 191 (by decide +kernel) rfl)
theorem l_X10_25 : ML RX10 25 mX0_init := (in1 194 (by decide +kernel) rfl)
theorem l_X10_32 : ML RX10 32 mX5_init := (in2 2 (by decide +kernel) rfl)
theorem l_X5_20 : ML RX5 20 mX0_init := (in2 8 (by decide +kernel) rfl)
theorem l_X10_39 : ML RX10 39 mX2_init := (in2 29 (by decide +kernel) rfl)
theorem l_X2_13 : ML RX2 13 mX0_init := (in2 34 (by decide +kernel) rfl)
theorem l_X10_46 : ML RX10 46 mX9_init := (in2 44 (by decide +kernel) rfl)
theorem l_X9_26 : ML RX9 26 mX0_init := (in2 49 (by decide +kernel) rfl)
theorem l_X10_53 : ML RX10 53 mX4_init := (in2 70 (by decide +kernel) rfl)
theorem l_X4_17 : ML RX4 17 mX0_init := (in2 75 (by decide +kernel) rfl)
theorem l_X10_60 : ML RX10 60 mX3_init := (in2 106 (by decide +kernel) rfl)
theorem l_X3_11 : ML RX3 11 mX0_init := (in2 111 (by decide +kernel) rfl)
theorem l_L_19 : ML RL 19 mX10_feed := (in2 166 (by decide +kernel) rfl)
theorem l_X10_69 : ML RX10 69 mX6_putBytes := (in2 170 (by decide +kernel) rfl)
theorem l_L_24 : ML RL 24 mX10_chalet := (in2 174 (by decide +kernel) rfl)
theorem l_X10_73 : ML RX10 73 mX10_within := (in2 178 (by decide +kernel) rfl)
theorem l_X10_77 : ML RX10 77 mX10_refuse := (in2 181 (by decide +kernel) rfl)
theorem l_X10_81 : ML RX10 81 mX6_begin := (in2 185 (by decide +kernel) rfl)
theorem l_X6_34 : ML RX6 34 mJ9_min_7cf53 := (in2 189 (by decide +kernel) rfl)
theorem l_X6_43 : ML RX6 43 mX8_clear := (in2 192 (by decide +kernel) rfl)
theorem l_X10_84 : ML RX10 84 mX6_readLines := (in2 196 (by decide +kernel) rfl)
theorem l_X6_62 : ML RX6 62 mX6_readLine := (in2 200 (by decide +kernel) rfl)
theorem l_X6_66 : ML RX6 66 mX6_nextToken := (in2 204 (by decide +kernel) rfl)
theorem l_X6_254 : ML RX6 254 mX6_takeWhole := (in2 208 (by decide +kernel) rfl)
theorem l_X6_257 : ML RX6 257 mX6_takeWord := (in2 212 (by decide +kernel) rfl)
theorem l_X6_76 : ML RX6 76 mX6_beginsLine := (in2 217 (by decide +kernel) rfl)
theorem l_X6_82 : ML RX6 82 mX6_isWord := (in2 222 (by decide +kernel) rfl)
theorem l_X6_244 : ML RX6 244 mJ0_length_8abf5 := (in2 226 (by decide +kernel) rfl)
theorem l_J0_335 : ML RJ0 335 mJ0_coder_7d493 := (in2 230 (by decide +kernel) rfl)
theorem l_X6_250 : ML RX6 250 mJ0_charAt_5068e := (in2 236 (by decide +kernel) rfl)
theorem l_J0_492 : ML RJ0 492 mJ0_isLatin1_aae02 := (in3 0 (by decide +kernel) rfl)
theorem l_J0_495 : ML RJ0 495 mJ1_charAt_3b067 := (in3 4 (by decide +kernel) rfl)
theorem l_J1_9 : ML RJ1 9 mJ0_checkIndex_df160 := (in3 7 (by decide +kernel) rfl)
theorem l_J0_1059 : ML RJ0 1059 mJ3_checkIndex_8e157 := (in3 12 (by decide +kernel) rfl)
theorem l_J0_498 : ML RJ0 498 mJ2_charAt_3b067 := (in3 15 (by decide +kernel) rfl)
theorem l_J2_67 : ML RJ2 67 mJ2_checkIndex_2214a := (in3 18 (by decide +kernel) rfl)
theorem l_J2_48 : ML RJ2 48 mJ2_length_9d52b := (in3 21 (by decide +kernel) rfl)
theorem l_J2_414 : ML RJ2 414 mJ0_checkIndex_df160 := (in3 24 (by decide +kernel) rfl)
theorem l_J2_71 : ML RJ2 71 mJ2_getChar_3b067 := (in3 25 (by decide +kernel) rfl)
theorem l_X6_72 : ML RX6 72 mX6_fails := (in3 40 (by decide +kernel) rfl)
theorem l_X6_86 : ML RX6 86 mX6_readChalet := (in3 44 (by decide +kernel) rfl)
theorem l_X6_140 : ML RX6 140 mX6_wants := (in3 49 (by decide +kernel) rfl)
theorem l_X6_143 : ML RX6 143 mX6_wantsWhole := (in3 53 (by decide +kernel) rfl)
theorem l_X6_219 : Cond.methodLinkNest RX6 219 mX10_within.1 "ChaletRule" ∈ lw_tbl := tn3 57 (by decide +kernel)
theorem l_X6_91 : ML RX6 91 mX6_readWeather := (in3 61 (by decide +kernel) rfl)
theorem l_X6_100 : ML RX6 100 mX7_isFull := (in3 67 (by decide +kernel) rfl)
theorem l_X6_105 : ML RX6 105 mX6_readVent := (in3 71 (by decide +kernel) rfl)
theorem l_X6_172 : ML RX6 172 mX6_wantsNewName := (in3 75 (by decide +kernel) rfl)
theorem l_X6_234 : ML RX6 234 mX6_nameNumber := (in3 79 (by decide +kernel) rfl)
theorem l_X6_175 : ML RX6 175 mX6_wantsWeather := (in3 83 (by decide +kernel) rfl)
theorem l_X6_210 : ML RX6 210 mX7_put := (in3 87 (by decide +kernel) rfl)
theorem l_X6_179 : ML RX6 179 mX6_wantsCell := (in3 91 (by decide +kernel) rfl)
theorem l_X6_185 : ML RX6 185 mX6_closes := (in3 96 (by decide +kernel) rfl)
theorem l_X6_223 : ML RX6 223 mX7_closeRow := (in3 100 (by decide +kernel) rfl)
theorem l_X6_113 : ML RX6 113 mX6_readPlan := (in3 104 (by decide +kernel) rfl)
theorem l_X6_121 : ML RX6 121 mX6_readSaw := (in3 110 (by decide +kernel) rfl)
theorem l_X6_195 : ML RX6 195 mX8_sawOn := (in3 115 (by decide +kernel) rfl)
theorem l_X8_54 : ML RX8 54 mX7_cell := (in3 119 (by decide +kernel) rfl)
theorem l_X7_23 : ML RX7 23 mX7_holds := (in3 123 (by decide +kernel) rfl)
theorem l_X6_198 : ML RX6 198 mX6_wantsWho := (in3 127 (by decide +kernel) rfl)
theorem l_X6_129 : ML RX6 129 mX6_readField := (in3 135 (by decide +kernel) rfl)
theorem l_X6_135 : ML RX6 135 mX6_readDitch := (in3 139 (by decide +kernel) rfl)
theorem l_X6_201 : ML RX6 201 mX6_wantsField := (in3 143 (by decide +kernel) rfl)
theorem l_X6_207 : ML RX6 207 mX8_hasDitch := (in3 147 (by decide +kernel) rfl)
theorem l_X10_98 : ML RX10 98 mX10_takeDraft := (in3 152 (by decide +kernel) rfl)
theorem l_X10_346 : ML RX10 346 mX0_begin := (in3 156 (by decide +kernel) rfl)
theorem l_X10_349 : ML RX10 349 mX5_forget := (in3 160 (by decide +kernel) rfl)
theorem l_X10_352 : ML RX10 352 mX4_forget := (in3 164 (by decide +kernel) rfl)
theorem l_L_28 : ML RL 28 mX10_fault := (in3 168 (by decide +kernel) rfl)
theorem l_L_33 : ML RL 33 mX10_where := (in3 172 (by decide +kernel) rfl)
theorem l_L_37 : ML RL 37 mX10_beam := (in3 176 (by decide +kernel) rfl)
theorem l_X10_113 : ML RX10 113 mX10_lacks := (in3 180 (by decide +kernel) rfl)
theorem l_X10_123 : ML RX10 123 mX0_whoIsOut := (in3 184 (by decide +kernel) rfl)
theorem l_X10_133 : ML RX10 133 mX0_pullOfDamp := (in3 188 (by decide +kernel) rfl)
theorem l_L_41 : ML RL 41 mX10_vent := (in3 191 (by decide +kernel) rfl)
theorem l_X10_136 : ML RX10 136 mX7_holds := (in3 195 (by decide +kernel) rfl)
theorem l_X10_140 : ML RX10 140 mX0_isOpen := (in3 196 (by decide +kernel) rfl)
theorem l_X10_143 : ML RX10 143 mX7_cell := (in3 200 (by decide +kernel) rfl)
theorem l_L_46 : ML RL 46 mX10_plan := (in3 201 (by decide +kernel) rfl)
theorem l_X10_150 : ML RX10 150 mX2_keeps := (in3 205 (by decide +kernel) rfl)
theorem l_X2_36 : ML RX2 36 mX7_cell := (in3 209 (by decide +kernel) rfl)
theorem l_X2_46 : ML RX2 46 mX2_behind := (in3 210 (by decide +kernel) rfl)
theorem l_X2_22 : ML RX2 22 mX0_copy := (in3 214 (by decide +kernel) rfl)
theorem l_X2_26 : ML RX2 26 mX0_passDay := (in3 218 (by decide +kernel) rfl)
theorem l_X0_52 : ML RX0 52 mX0_whoIsOut := (in3 222 (by decide +kernel) rfl)
theorem l_X0_49 : ML RX0 49 mJ9_min_7cf53 := (in3 223 (by decide +kernel) rfl)
theorem l_X0_39 : ML RX0 39 mJ9_max_7cf53 := (in3 224 (by decide +kernel) rfl)
theorem l_X0_64 : ML RX0 64 mX0_noteWeather := (in3 227 (by decide +kernel) rfl)
theorem l_X0_67 : ML RX0 67 mX0_pullOfDamp := (in3 231 (by decide +kernel) rfl)
theorem l_X0_70 : ML RX0 70 mX8_pullOfVents := (in3 232 (by decide +kernel) rfl)
theorem l_X0_73 : ML RX0 73 mX0_turned := (in3 236 (by decide +kernel) rfl)
theorem l_X0_45 : ML RX0 45 mX0_reach := (in4 0 (by decide +kernel) rfl)
theorem l_X2_50 : ML RX2 50 mX8_isKept := (in4 4 (by decide +kernel) rfl)
theorem l_X8_58 : ML RX8 58 mX0_had := (in4 8 (by decide +kernel) rfl)
theorem l_L_50 : ML RL 50 mX10_goes := (in4 12 (by decide +kernel) rfl)
theorem l_X10_154 : ML RX10 154 mX10_refused := (in4 16 (by decide +kernel) rfl)
theorem l_X10_157 : ML RX10 157 mX0_reach := (in4 20 (by decide +kernel) rfl)
theorem l_L_54 : ML RL 54 mX10_stays := (in4 21 (by decide +kernel) rfl)
theorem l_X10_160 : ML RX10 160 mX0_turned := (in4 25 (by decide +kernel) rfl)
theorem l_L_58 : ML RL 58 mX10_angleIn := (in4 26 (by decide +kernel) rfl)
theorem l_X10_163 : ML RX10 163 mX2_behind := (in4 30 (by decide +kernel) rfl)
theorem l_L_62 : ML RL 62 mX10_dampIn := (in4 31 (by decide +kernel) rfl)
theorem l_L_66 : ML RL 66 mX10_whoIn := (in4 35 (by decide +kernel) rfl)
theorem l_L_70 : ML RL 70 mX10_daysOf := (in4 39 (by decide +kernel) rfl)
theorem l_X10_167 : ML RX10 167 mX2_daysWith := (in4 43 (by decide +kernel) rfl)
theorem l_L_74 : ML RL 74 mX10_when := (in4 47 (by decide +kernel) rfl)
theorem l_X10_171 : ML RX10 171 mX2_daysUntil := (in4 51 (by decide +kernel) rfl)
theorem l_X2_57 : ML RX2 57 mX0_whoIsOut := (in4 55 (by decide +kernel) rfl)
theorem l_L_78 : ML RL 78 mX10_round := (in4 56 (by decide +kernel) rfl)
theorem l_X10_175 : ML RX10 175 mX2_goesRound := (in4 60 (by decide +kernel) rfl)
theorem l_X2_61 : ML RX2 61 mJ7_fill_53178 := (in4 64 (by decide +kernel) rfl)
theorem l_L_82 : ML RL 82 mX10_kept := (in4 67 (by decide +kernel) rfl)
theorem l_X10_182 : ML RX10 182 mX8_worthKept := (in4 71 (by decide +kernel) rfl)
theorem l_X8_64 : ML RX8 64 mX8_isKept := (in4 75 (by decide +kernel) rfl)
theorem l_L_86 : ML RL 86 mX10_worthOf := (in4 76 (by decide +kernel) rfl)
theorem l_X10_186 : ML RX10 186 mX9_take := (in4 80 (by decide +kernel) rfl)
theorem l_X10_189 : ML RX10 189 mX9_worth := (in4 84 (by decide +kernel) rfl)
theorem l_X9_27 : ML RX9 27 mX0_copy := (in4 88 (by decide +kernel) rfl)
theorem l_X9_31 : ML RX9 31 mX9_follow := (in4 89 (by decide +kernel) rfl)
theorem l_X9_75 : ML RX9 75 mX7_cell := (in4 93 (by decide +kernel) rfl)
theorem l_X9_78 : ML RX9 78 mX9_passTurn := (in4 94 (by decide +kernel) rfl)
theorem l_X9_81 : Cond.methodLinkNest RX9 81 mX10_within.1 "ChaletRule" ∈ lw_tbl := tn4 98 (by decide +kernel)
theorem l_X9_85 : ML RX9 85 mX0_openVent := (in4 99 (by decide +kernel) rfl)
theorem l_X9_89 : ML RX9 89 mX0_passDay := (in4 103 (by decide +kernel) rfl)
theorem l_X9_35 : ML RX9 35 mX9_scoreOf := (in4 104 (by decide +kernel) rfl)
theorem l_X9_96 : ML RX9 96 mX8_worthKept := (in4 109 (by decide +kernel) rfl)
theorem l_X9_100 : ML RX9 100 mX8_keptAll := (in4 110 (by decide +kernel) rfl)
theorem l_X9_104 : ML RX9 104 mX0_whoIsOut := (in4 114 (by decide +kernel) rfl)
theorem l_X9_108 : ML RX9 108 mX9_opened := (in4 115 (by decide +kernel) rfl)
theorem l_L_90 : ML RL 90 mX10_bestRow := (in4 119 (by decide +kernel) rfl)
theorem l_X10_192 : ML RX10 192 mX9_search := (in4 123 (by decide +kernel) rfl)
theorem l_X9_47 : ML RX9 47 mJ7_fill_53178 := (in4 127 (by decide +kernel) rfl)
theorem l_X9_64 : ML RX9 64 mX9_rowsOf := (in4 128 (by decide +kernel) rfl)
theorem l_X9_68 : ML RX9 68 mX9_digits := (in4 131 (by decide +kernel) rfl)
theorem l_X9_72 : ML RX9 72 mX9_nextRow := (in4 135 (by decide +kernel) rfl)
theorem l_L_94 : ML RL 94 mX10_bestWorth := (in4 139 (by decide +kernel) rfl)
theorem l_L_98 : ML RL 98 mX10_sureRow := (in4 143 (by decide +kernel) rfl)
theorem l_L_102 : ML RL 102 mX10_sureCoins := (in4 147 (by decide +kernel) rfl)
theorem l_L_106 : ML RL 106 mX10_rowFor := (in4 151 (by decide +kernel) rfl)
theorem l_L_110 : ML RL 110 mX10_makes := (in4 155 (by decide +kernel) rfl)
theorem l_X10_202 : ML RX10 202 mX10_gathered := (in4 159 (by decide +kernel) rfl)
theorem l_X10_339 : ML RX10 339 mX4_gather := (in4 163 (by decide +kernel) rfl)
theorem l_X4_62 : ML RX4 62 mX4_watch := (in4 167 (by decide +kernel) rfl)
theorem l_X4_73 : ML RX4 73 mX0_begin := (in4 171 (by decide +kernel) rfl)
theorem l_X4_77 : ML RX4 77 mX0_passDay := (in4 172 (by decide +kernel) rfl)
theorem l_X4_80 : ML RX4 80 mX0_whoIsOut := (in4 173 (by decide +kernel) rfl)
theorem l_X4_66 : ML RX4 66 mX4_unlikeSeen := (in4 174 (by decide +kernel) rfl)
theorem l_X4_91 : ML RX4 91 mX7_cell := (in4 178 (by decide +kernel) rfl)
theorem l_L_114 : ML RL 114 mX10_makeAt := (in4 179 (by decide +kernel) rfl)
theorem l_X10_211 : ML RX10 211 mX4_nameOf := (in4 183 (by decide +kernel) rfl)
theorem l_L_118 : ML RL 118 mX10_could := (in4 187 (by decide +kernel) rfl)
theorem l_X10_214 : ML RX10 214 mX4_bitsOf := (in4 191 (by decide +kernel) rfl)
theorem l_L_123 : ML RL 123 mX10_surely := (in4 195 (by decide +kernel) rfl)
theorem l_X10_218 : ML RX10 218 mX4_onlyOne := (in4 199 (by decide +kernel) rfl)
theorem l_X4_36 : ML RX4 36 mX4_bitsOf := (in4 203 (by decide +kernel) rfl)
theorem l_L_127 : ML RL 127 mX10_look := (in4 204 (by decide +kernel) rfl)
theorem l_X10_221 : ML RX10 221 mX4_chooseDay := (in4 208 (by decide +kernel) rfl)
theorem l_X4_40 : ML RX4 40 mX4_countOuts := (in4 212 (by decide +kernel) rfl)
theorem l_X4_95 : ML RX4 95 mJ7_fill_53178 := (in4 216 (by decide +kernel) rfl)
theorem l_X4_50 : ML RX4 50 mX4_mostOf := (in4 217 (by decide +kernel) rfl)
theorem l_X4_101 : ML RX4 101 mJ9_max_7cf53 := (in4 221 (by decide +kernel) rfl)
theorem l_L_131 : ML RL 131 mX10_lookLeaves := (in4 222 (by decide +kernel) rfl)
theorem l_L_135 : ML RL 135 mX10_judge := (in4 226 (by decide +kernel) rfl)
theorem l_X10_231 : ML RX10 231 mX4_firstUnlike := (in4 230 (by decide +kernel) rfl)
theorem l_L_139 : ML RL 139 mX10_value := (in4 234 (by decide +kernel) rfl)
theorem l_X10_235 : ML RX10 235 mX9_played := (in4 238 (by decide +kernel) rfl)
theorem l_X9_111 : ML RX9 111 mX9_bestFrom := (in5 2 (by decide +kernel) rfl)
theorem l_X9_118 : ML RX9 118 mJ9_max_7cf53 := (in5 5 (by decide +kernel) rfl)
theorem l_X9_123 : ML RX9 123 mJ9_min_7cf53 := (in5 6 (by decide +kernel) rfl)
theorem l_L_143 : ML RL 143 mX10_opens := (in5 7 (by decide +kernel) rfl)
theorem l_X10_238 : ML RX10 238 mX9_firstOpened := (in5 11 (by decide +kernel) rfl)
theorem l_L_147 : ML RL 147 mX10_flood := (in5 15 (by decide +kernel) rfl)
theorem l_X10_241 : ML RX10 241 mX1_most := (in5 19 (by decide +kernel) rfl)
theorem l_X1_15 : ML RX1 15 mX1_leastSide := (in5 22 (by decide +kernel) rfl)
theorem l_X1_21 : ML RX1 21 mX1_acrossFrom := (in5 25 (by decide +kernel) rfl)
theorem l_X1_34 : ML RX1 34 mX7_cell := (in5 28 (by decide +kernel) rfl)
theorem l_L_151 : ML RL 151 mX10_cut := (in5 29 (by decide +kernel) rfl)
theorem l_X10_250 : ML RX10 250 mX1_leastSide := (in5 33 (by decide +kernel) rfl)
theorem l_L_155 : ML RL 155 mX10_floodIf := (in5 34 (by decide +kernel) rfl)
theorem l_L_159 : ML RL 159 mX10_narrow := (in5 38 (by decide +kernel) rfl)
theorem l_X10_256 : ML RX10 256 mX1_narrowDitches := (in5 42 (by decide +kernel) rfl)
theorem l_X1_38 : ML RX1 38 mX1_most := (in5 45 (by decide +kernel) rfl)
theorem l_L_163 : ML RL 163 mX10_downhill := (in5 46 (by decide +kernel) rfl)
theorem l_X10_259 : ML RX10 259 mX1_reachedFrom := (in5 50 (by decide +kernel) rfl)
theorem l_L_167 : ML RL 167 mX10_likely := (in5 53 (by decide +kernel) rfl)
theorem l_X10_265 : ML RX10 265 mX3_weigh := (in5 58 (by decide +kernel) rfl)
theorem l_X3_27 : ML RX3 27 mX3_blow := (in5 63 (by decide +kernel) rfl)
theorem l_X3_42 : ML RX3 42 mX0_copy := (in5 67 (by decide +kernel) rfl)
theorem l_X3_46 : ML RX3 46 mX0_passDay := (in5 68 (by decide +kernel) rfl)
theorem l_X3_50 : ML RX3 50 mX0_gust := (in5 69 (by decide +kernel) rfl)
theorem l_X3_35 : ML RX3 35 mX0_whoIsOut := (in5 73 (by decide +kernel) rfl)
theorem l_X3_39 : ML RX3 39 mX3_shorten := (in5 74 (by decide +kernel) rfl)
theorem l_L_172 : ML RL 172 mX10_mean := (in5 78 (by decide +kernel) rfl)
theorem l_L_177 : ML RL 177 mX10_gusted := (in5 82 (by decide +kernel) rfl)
theorem l_X10_276 : ML RX10 276 mX3_draw := (in5 87 (by decide +kernel) rfl)
theorem l_L_181 : ML RL 181 mX10_wetIn := (in5 92 (by decide +kernel) rfl)
theorem l_L_185 : ML RL 185 mX10_open := (in5 96 (by decide +kernel) rfl)
theorem l_X10_285 : ML RX10 285 mX5_keep := (in5 100 (by decide +kernel) rfl)
theorem l_X5_31 : Cond.methodLinkNest RX5 31 mX10_within.1 "ChaletRule" ∈ lw_tbl := tn5 104 (by decide +kernel)
theorem l_X5_35 : ML RX5 35 mX0_copy := (in5 105 (by decide +kernel) rfl)
theorem l_X5_39 : ML RX5 39 mJ9_min_7cf53 := (in5 106 (by decide +kernel) rfl)
theorem l_X10_289 : ML RX10 289 mX0_openVent := (in5 107 (by decide +kernel) rfl)
theorem l_L_190 : ML RL 190 mX10_oil := (in5 108 (by decide +kernel) rfl)
theorem l_L_194 : ML RL 194 mX10_day := (in5 112 (by decide +kernel) rfl)
theorem l_X10_292 : ML RX10 292 mX0_passDay := (in5 116 (by decide +kernel) rfl)
theorem l_L_198 : ML RL 198 mX10_undo := (in5 117 (by decide +kernel) rfl)
theorem l_X10_295 : ML RX10 295 mX5_takeBack := (in5 121 (by decide +kernel) rfl)
theorem l_L_203 : ML RL 203 mX10_image := (in5 125 (by decide +kernel) rfl)
theorem l_X10_299 : ML RX10 299 mX5_paint := (in5 129 (by decide +kernel) rfl)
theorem l_L_207 : ML RL 207 mX10_back := (in5 133 (by decide +kernel) rfl)
theorem l_X10_303 : ML RX10 303 mX5_recall := (in5 137 (by decide +kernel) rfl)
theorem l_L_220 : ML RL 220 mX10_size := (in5 141 (by decide +kernel) rfl)
theorem l_L_224 : ML RL 224 mX10_trouble := (in5 145 (by decide +kernel) rfl)
theorem l_L_211 : ML RL 211 mL_led := (in5 149 (by decide +kernel) rfl)
theorem l_L_7 : ML RL 7 mX10_led := (in5 153 (by decide +kernel) rfl)
theorem l_X10_307 : ML RX10 307 mX8_isKept := (in5 157 (by decide +kernel) rfl)
theorem l_L_18 : ML RL 18 mX11_init := (in5 225 (by decide +kernel) rfl)
theorem l_L_217 : ML RL 217 mX11_thrown := (in6 110 (by decide +kernel) rfl)
theorem l_L_23 : ML RL 23 mX11_feed := (in6 114 (by decide +kernel) rfl)
theorem l_L_27 : ML RL 27 mX11_chalet := (in6 118 (by decide +kernel) rfl)
theorem l_X11_168 : ML RX11 168 mX11_good := (in6 122 (by decide +kernel) rfl)
theorem l_X11_149 : ML RX11 149 mX11_in := (in6 126 (by decide +kernel) rfl)
theorem l_X11_171 : ML RX11 171 mX11_no := (in6 129 (by decide +kernel) rfl)
theorem l_X11_119 : ML RX11 119 mX11_next := (in6 133 (by decide +kernel) rfl)
theorem l_X11_75 : ML RX11 75 mX11_see := (in6 137 (by decide +kernel) rfl)
theorem l_X11_91 : ML RX11 91 mX11_isSmall := (in6 141 (by decide +kernel) rfl)
theorem l_X11_95 : ML RX11 95 mX11_isDigit := (in6 144 (by decide +kernel) rfl)
theorem l_X11_174 : ML RX11 174 mX11_readLine := (in6 147 (by decide +kernel) rfl)
theorem l_X11_115 : ML RX11 115 mX11_isWord := (in6 152 (by decide +kernel) rfl)
theorem l_X11_105 : ML RX11 105 mJ0_length_8abf5 := (in6 156 (by decide +kernel) rfl)
theorem l_X11_111 : ML RX11 111 mJ0_charAt_5068e := (in6 157 (by decide +kernel) rfl)
theorem l_X11_194 : ML RX11 194 mX11_chaletLine := (in6 158 (by decide +kernel) rfl)
theorem l_X11_125 : ML RX11 125 mX11_wrong := (in6 162 (by decide +kernel) rfl)
theorem l_X11_221 : ML RX11 221 mX11_after := (in6 167 (by decide +kernel) rfl)
theorem l_X11_157 : ML RX11 157 mX11_must := (in6 171 (by decide +kernel) rfl)
theorem l_X11_122 : ML RX11 122 mX11_takesWord := (in6 175 (by decide +kernel) rfl)
theorem l_X11_161 : ML RX11 161 mX11_number := (in6 179 (by decide +kernel) rfl)
theorem l_X11_153 : ML RX11 153 mX11_numberHere := (in6 183 (by decide +kernel) rfl)
theorem l_X11_197 : ML RX11 197 mX11_isLine := (in6 191 (by decide +kernel) rfl)
theorem l_X11_201 : ML RX11 201 mX11_weatherLine := (in6 195 (by decide +kernel) rfl)
theorem l_X11_204 : ML RX11 204 mX11_ventLine := (in6 202 (by decide +kernel) rfl)
theorem l_X11_231 : ML RX11 231 mX11_newName := (in6 206 (by decide +kernel) rfl)
theorem l_X11_143 : ML RX11 143 mX11_mustName := (in6 210 (by decide +kernel) rfl)
theorem l_X11_146 : ML RX11 146 mX11_find := (in6 218 (by decide +kernel) rfl)
theorem l_X11_235 : ML RX11 235 mX11_weather := (in6 222 (by decide +kernel) rfl)
theorem l_X11_207 : ML RX11 207 mX11_planLine := (in6 227 (by decide +kernel) rfl)
theorem l_X11_210 : ML RX11 210 mX11_sawLine := (in6 233 (by decide +kernel) rfl)
theorem l_X11_213 : ML RX11 213 mX11_fieldLine := (in7 2 (by decide +kernel) rfl)
theorem l_X11_216 : ML RX11 216 mX11_ditchLine := (in7 6 (by decide +kernel) rfl)
theorem l_X11_253 : ML RX11 253 mX11_fieldHere := (in7 10 (by decide +kernel) rfl)
theorem l_X11_177 : ML RX11 177 mX11_copy := (in7 15 (by decide +kernel) rfl)
theorem l_X11_181 : ML RX11 181 mX11_begins := (in7 18 (by decide +kernel) rfl)
theorem l_L_32 : ML RL 32 mX11_fault := (in7 22 (by decide +kernel) rfl)
theorem l_L_36 : ML RL 36 mX11_where := (in7 26 (by decide +kernel) rfl)
theorem l_L_40 : ML RL 40 mX11_beam := (in7 30 (by decide +kernel) rfl)
theorem l_X11_268 : ML RX11 268 mX11_whoOf := (in7 34 (by decide +kernel) rfl)
theorem l_X11_258 : ML RX11 258 mX11_towards := (in7 37 (by decide +kernel) rfl)
theorem l_L_45 : ML RL 45 mX11_vent := (in7 40 (by decide +kernel) rfl)
theorem l_X11_292 : ML RX11 292 mX11_isVent := (in7 44 (by decide +kernel) rfl)
theorem l_L_49 : ML RL 49 mX11_plan := (in7 48 (by decide +kernel) rfl)
theorem l_X11_285 : ML RX11 285 mX11_begin := (in7 52 (by decide +kernel) rfl)
theorem l_X11_288 : ML RX11 288 mX11_dayOf := (in7 56 (by decide +kernel) rfl)
theorem l_X11_282 : ML RX11 282 mX11_dayBy := (in7 60 (by decide +kernel) rfl)
theorem l_X11_272 : ML RX11 272 mX11_pullOf := (in7 64 (by decide +kernel) rfl)
theorem l_X11_261 : ML RX11 261 mX11_hasBit := (in7 68 (by decide +kernel) rfl)
theorem l_X11_265 : ML RX11 265 mX11_bound := (in7 71 (by decide +kernel) rfl)
theorem l_X11_275 : ML RX11 275 mX11_stepOf := (in7 74 (by decide +kernel) rfl)
theorem l_X11_279 : ML RX11 279 mX11_nearer := (in7 77 (by decide +kernel) rfl)
theorem l_L_53 : ML RL 53 mX11_goes := (in7 80 (by decide +kernel) rfl)
theorem l_X11_295 : ML RX11 295 mX11_why := (in7 84 (by decide +kernel) rfl)
theorem l_L_57 : ML RL 57 mX11_stays := (in7 88 (by decide +kernel) rfl)
theorem l_L_61 : ML RL 61 mX11_angleIn := (in7 92 (by decide +kernel) rfl)
theorem l_X11_298 : ML RX11 298 mX11_goOver := (in7 96 (by decide +kernel) rfl)
theorem l_L_65 : ML RL 65 mX11_dampIn := (in7 100 (by decide +kernel) rfl)
theorem l_L_69 : ML RL 69 mX11_whoIn := (in7 104 (by decide +kernel) rfl)
theorem l_L_73 : ML RL 73 mX11_daysOf := (in7 108 (by decide +kernel) rfl)
theorem l_L_77 : ML RL 77 mX11_when := (in7 112 (by decide +kernel) rfl)
theorem l_L_81 : ML RL 81 mX11_round := (in7 116 (by decide +kernel) rfl)
theorem l_L_85 : ML RL 85 mX11_kept := (in7 120 (by decide +kernel) rfl)
theorem l_X11_301 : ML RX11 301 mX11_worthsOf := (in7 124 (by decide +kernel) rfl)
theorem l_L_89 : ML RL 89 mX11_worthOf := (in7 128 (by decide +kernel) rfl)
theorem l_X11_311 : ML RX11 311 mX11_isRowOf := (in7 132 (by decide +kernel) rfl)
theorem l_X11_314 : ML RX11 314 mX11_worthBy := (in7 136 (by decide +kernel) rfl)
theorem l_X11_308 : ML RX11 308 mX11_goBy := (in7 140 (by decide +kernel) rfl)
theorem l_L_93 : ML RL 93 mX11_bestRow := (in7 144 (by decide +kernel) rfl)
theorem l_X11_321 : ML RX11 321 mX11_bestOf := (in7 148 (by decide +kernel) rfl)
theorem l_X11_317 : ML RX11 317 mX11_rowsFor := (in7 152 (by decide +kernel) rfl)
theorem l_L_97 : ML RL 97 mX11_bestWorth := (in7 156 (by decide +kernel) rfl)
theorem l_L_101 : ML RL 101 mX11_sureRow := (in7 160 (by decide +kernel) rfl)
theorem l_X11_330 : ML RX11 330 mX11_sureOf := (in7 164 (by decide +kernel) rfl)
theorem l_X11_327 : ML RX11 327 mX11_areAllKept := (in7 168 (by decide +kernel) rfl)
theorem l_L_105 : ML RL 105 mX11_sureCoins := (in7 172 (by decide +kernel) rfl)
theorem l_L_109 : ML RL 109 mX11_rowFor := (in7 176 (by decide +kernel) rfl)
theorem l_X11_333 : ML RX11 333 mX11_ventsIn := (in7 180 (by decide +kernel) rfl)
theorem l_L_113 : ML RL 113 mX11_makes := (in7 183 (by decide +kernel) rfl)
theorem l_X11_351 : ML RX11 351 mX11_seekMakes := (in7 187 (by decide +kernel) rfl)
theorem l_X11_345 : ML RX11 345 mX11_layOuts := (in7 191 (by decide +kernel) rfl)
theorem l_X11_348 : ML RX11 348 mX11_wrongSeen := (in7 195 (by decide +kernel) rfl)
theorem l_L_117 : ML RL 117 mX11_makeAt := (in7 199 (by decide +kernel) rfl)
theorem l_L_122 : ML RL 122 mX11_could := (in7 203 (by decide +kernel) rfl)
theorem l_L_126 : ML RL 126 mX11_surely := (in7 207 (by decide +kernel) rfl)
theorem l_L_130 : ML RL 130 mX11_look := (in7 211 (by decide +kernel) rfl)
theorem l_X11_357 : ML RX11 357 mX11_lookOf := (in7 215 (by decide +kernel) rfl)
theorem l_L_134 : ML RL 134 mX11_lookLeaves := (in7 219 (by decide +kernel) rfl)
theorem l_L_138 : ML RL 138 mX11_judge := (in7 223 (by decide +kernel) rfl)
theorem l_L_142 : ML RL 142 mX11_value := (in7 227 (by decide +kernel) rfl)
theorem l_X11_364 : ML RX11 364 mX11_valueFrom := (in7 231 (by decide +kernel) rfl)
theorem l_X11_361 : ML RX11 361 mX11_layLevel := (in7 236 (by decide +kernel) rfl)
theorem l_L_146 : ML RL 146 mX11_opens := (in8 0 (by decide +kernel) rfl)
theorem l_L_150 : ML RL 150 mX11_flood := (in8 4 (by decide +kernel) rfl)
theorem l_X11_379 : ML RX11 379 mX11_floodBy := (in8 8 (by decide +kernel) rfl)
theorem l_X11_376 : ML RX11 376 mX11_cutOf := (in8 12 (by decide +kernel) rfl)
theorem l_X11_373 : ML RX11 373 mX11_acrossOf := (in8 16 (by decide +kernel) rfl)
theorem l_X11_370 : ML RX11 370 mX11_carriesOf := (in8 20 (by decide +kernel) rfl)
theorem l_L_154 : ML RL 154 mX11_cut := (in8 24 (by decide +kernel) rfl)
theorem l_L_158 : ML RL 158 mX11_floodIf := (in8 28 (by decide +kernel) rfl)
theorem l_L_162 : ML RL 162 mX11_narrow := (in8 32 (by decide +kernel) rfl)
theorem l_L_166 : ML RL 166 mX11_downhill := (in8 36 (by decide +kernel) rfl)
theorem l_L_171 : ML RL 171 mX11_likely := (in8 40 (by decide +kernel) rfl)
theorem l_X11_393 : ML RX11 393 mX11_tryGusts := (in8 44 (by decide +kernel) rfl)
theorem l_X11_391 : ML RX11 391 mX11_gust := (in8 49 (by decide +kernel) rfl)
theorem l_X11_396 : ML RX11 396 mX11_lowest := (in8 52 (by decide +kernel) rfl)
theorem l_L_176 : ML RL 176 mX11_mean := (in8 55 (by decide +kernel) rfl)
theorem l_L_180 : ML RL 180 mX11_gusted := (in8 59 (by decide +kernel) rfl)
theorem l_X11_405 : ML RX11 405 mX11_gustWhy := (in8 63 (by decide +kernel) rfl)
theorem l_L_184 : ML RL 184 mX11_wetIn := (in8 69 (by decide +kernel) rfl)
theorem l_L_189 : ML RL 189 mX11_open := (in8 73 (by decide +kernel) rfl)
theorem l_X11_408 : ML RX11 408 mX11_isNot := (in8 77 (by decide +kernel) rfl)
theorem l_X11_411 : ML RX11 411 mX11_note := (in8 81 (by decide +kernel) rfl)
theorem l_L_193 : ML RL 193 mX11_oil := (in8 85 (by decide +kernel) rfl)
theorem l_L_197 : ML RL 197 mX11_day := (in8 89 (by decide +kernel) rfl)
theorem l_L_202 : ML RL 202 mX11_undo := (in8 93 (by decide +kernel) rfl)
theorem l_L_206 : ML RL 206 mX11_image := (in8 97 (by decide +kernel) rfl)
theorem l_L_210 : ML RL 210 mX11_back := (in8 101 (by decide +kernel) rfl)
theorem l_L_216 : ML RL 216 mX11_led := (in8 105 (by decide +kernel) rfl)
theorem l_L_223 : ML RL 223 mX11_size := (in8 109 (by decide +kernel) rfl)
theorem l_L_227 : ML RL 227 mX11_trouble := (in8 113 (by decide +kernel) rfl)
