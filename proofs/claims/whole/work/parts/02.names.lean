def RX0 : String := "HookTies$Net"
def TX0 : u_T := fun k => match k with
  | 0 => ("HookTies$Net", "inside", "I", false)
  | 1 => ("HookTies$Net", "things", "I", false)
  | _ => ("HookTies$Net", "ends", "[I", true)
def tyX0 : Nat → FieldType := fun k => match k with
  | 0 => .int
  | 1 => .int
  | _ => .array .int
abbrev wsX00 : List Cond := u_ws RX0 TX0 3
theorem nmX0 : ∀ a, a < 3 → ∀ b, b < 3 → a ≠ b → (TX0 a).2.1 ≠ (TX0 b).2.1 := by decide +kernel
theorem tyX0_ok : ∀ k, k < 3 → parseFieldDescriptor (TX0 k).2.2.1 = some (tyX0 k) := by decide +kernel
def RX1 : String := "HookTies$Rack"
def TX1 : u_T := fun k => match k with
  | 0 => ("HookTies$Rack", "missing", "Z", false)
  | 1 => ("HookTies$Rack", "room", "I", false)
  | 2 => ("HookTies$Rack", "size", "I", false)
  | 3 => ("HookTies$Rack", "whats", "[I", true)
  | _ => ("HookTies$Rack", "values", "[I", true)
def tyX1 : Nat → FieldType := fun k => match k with
  | 0 => .boolean
  | 1 => .int
  | 2 => .int
  | 3 => .array .int
  | _ => .array .int
abbrev wsX10 : List Cond := u_ws RX1 TX1 5
theorem nmX1 : ∀ a, a < 5 → ∀ b, b < 5 → a ≠ b → (TX1 a).2.1 ≠ (TX1 b).2.1 := by decide +kernel
theorem tyX1_ok : ∀ k, k < 5 → parseFieldDescriptor (TX1 k).2.2.1 = some (tyX1 k) := by decide +kernel
def RX2 : String := "HookTies$Sights"
def TX2 : u_T := fun k => match k with
  | 0 => ("HookTies$Sights", "years", "[I", true)
  | 1 => ("HookTies$Sights", "home", "[Z", true)
  | 2 => ("HookTies$Sights", "lost", "[I", true)
  | _ => ("HookTies$Sights", "size", "I", false)
def tyX2 : Nat → FieldType := fun k => match k with
  | 0 => .array .int
  | 1 => .array .boolean
  | 2 => .array .int
  | _ => .int
abbrev wsX20 : List Cond := u_ws RX2 TX2 4
theorem nmX2 : ∀ a, a < 4 → ∀ b, b < 4 → a ≠ b → (TX2 a).2.1 ≠ (TX2 b).2.1 := by decide +kernel
theorem tyX2_ok : ∀ k, k < 4 → parseFieldDescriptor (TX2 k).2.2.1 = some (tyX2 k) := by decide +kernel
def RX3 : String := "HookTies$State"
def TX3 : u_T := fun k => match k with
  | 0 => ("HookTies$State", "at", "[I", true)
  | 1 => ("HookTies$State", "worth", "[I", true)
  | 2 => ("HookTies$State", "out", "I", false)
  | _ => ("HookTies$State", "year", "I", false)
def tyX3 : Nat → FieldType := fun k => match k with
  | 0 => .array .int
  | 1 => .array .int
  | 2 => .int
  | _ => .int
abbrev wsX30 : List Cond := u_ws RX3 TX3 4
theorem nmX3 : ∀ a, a < 4 → ∀ b, b < 4 → a ≠ b → (TX3 a).2.1 ≠ (TX3 b).2.1 := by decide +kernel
theorem tyX3_ok : ∀ k, k < 4 → parseFieldDescriptor (TX3 k).2.2.1 = some (tyX3 k) := by decide +kernel
def RX4 : String := "HookTies$Text"
def TX4 : u_T := fun k => match k with
  | 0 => ("HookTies$Text", "letters", "[C", true)
  | 1 => ("HookTies$Text", "length", "I", false)
  | 2 => ("HookTies$Text", "clauses", "I", false)
  | 3 => ("HookTies$Text", "type", "I", false)
  | 4 => ("HookTies$Text", "start", "I", false)
  | _ => ("HookTies$Text", "end", "I", false)
def tyX4 : Nat → FieldType := fun k => match k with
  | 0 => .array .char
  | 1 => .int
  | 2 => .int
  | 3 => .int
  | 4 => .int
  | _ => .int
abbrev wsX40 : List Cond := u_ws RX4 TX4 6
theorem nmX4 : ∀ a, a < 6 → ∀ b, b < 6 → a ≠ b → (TX4 a).2.1 ≠ (TX4 b).2.1 := by decide +kernel
theorem tyX4_ok : ∀ k, k < 6 → parseFieldDescriptor (TX4 k).2.2.1 = some (tyX4 k) := by decide +kernel
def RX5 : String := "HookTies$Told"
def TX5 : u_T := fun k => match k with
  | 0 => ("HookTies$Told", "houses", "I", false)
  | 1 => ("HookTies$Told", "things", "I", false)
  | 2 => ("HookTies$Told", "kind", "[I", true)
  | 3 => ("HookTies$Told", "owner", "[I", true)
  | 4 => ("HookTies$Told", "at", "[I", true)
  | 5 => ("HookTies$Told", "worth", "[I", true)
  | _ => ("HookTies$Told", "want", "[I", true)
def tyX5 : Nat → FieldType := fun k => match k with
  | 0 => .int
  | 1 => .int
  | 2 => .array .int
  | 3 => .array .int
  | 4 => .array .int
  | 5 => .array .int
  | _ => .array .int
abbrev wsX50 : List Cond := u_ws RX5 TX5 7
theorem nmX5 : ∀ a, a < 7 → ∀ b, b < 7 → a ≠ b → (TX5 a).2.1 ≠ (TX5 b).2.1 := by decide +kernel
theorem tyX5_ok : ∀ k, k < 7 → parseFieldDescriptor (TX5 k).2.2.1 = some (tyX5 k) := by decide +kernel
def RX6 : String := "HookTies"
def TX6 : u_T := fun k => match k with
  | 0 => ("HookTies", "told", "LHookTies$Told;", true)
  | 1 => ("HookTies", "draft", "LHookTies$Told;", true)
  | 2 => ("HookTies", "now", "LHookTies$State;", true)
  | 3 => ("HookTies", "ahead", "LHookTies$State;", true)
  | 4 => ("HookTies", "past", "[LHookTies$State;", true)
  | 5 => ("HookTies", "pastCount", "I", false)
  | 6 => ("HookTies", "kept", "[LHookTies$State;", true)
  | 7 => ("HookTies", "isKept", "[Z", true)
  | 8 => ("HookTies", "wants", "[I", true)
  | 9 => ("HookTies", "text", "LHookTies$Text;", true)
  | 10 => ("HookTies", "net", "LHookTies$Net;", true)
  | 11 => ("HookTies", "knitThings", "[I", true)
  | 12 => ("HookTies", "knitHouses", "[I", true)
  | 13 => ("HookTies", "sights", "LHookTies$Sights;", true)
  | _ => ("HookTies", "racks", "[LHookTies$Rack;", true)
def tyX6 : Nat → FieldType := fun k => match k with
  | 0 => .object "HookTies$Told"
  | 1 => .object "HookTies$Told"
  | 2 => .object "HookTies$State"
  | 3 => .object "HookTies$State"
  | 4 => .array (.object "HookTies$State")
  | 5 => .int
  | 6 => .array (.object "HookTies$State")
  | 7 => .array .boolean
  | 8 => .array .int
  | 9 => .object "HookTies$Text"
  | 10 => .object "HookTies$Net"
  | 11 => .array .int
  | 12 => .array .int
  | 13 => .object "HookTies$Sights"
  | _ => .array (.object "HookTies$Rack")
abbrev wsX60 : List Cond := u_ws RX6 TX6 15
theorem nmX6 : ∀ a, a < 15 → ∀ b, b < 15 → a ≠ b → (TX6 a).2.1 ≠ (TX6 b).2.1 := by decide +kernel
theorem tyX6_ok : ∀ k, k < 15 → parseFieldDescriptor (TX6 k).2.2.1 = some (tyX6 k) := by decide +kernel
def RX7 : String := "HookTiesModel"
def TX7 : u_T := fun k => match k with
  | 0 => ("HookTiesModel", "row", "[I", true)
  | 1 => ("HookTiesModel", "undos", "I", false)
  | 2 => ("HookTiesModel", "isKept", "[Z", true)
  | 3 => ("HookTiesModel", "text", "[I", true)
  | 4 => ("HookTiesModel", "length", "I", false)
  | 5 => ("HookTiesModel", "seenMany", "I", false)
  | 6 => ("HookTiesModel", "seenYears", "[I", true)
  | 7 => ("HookTiesModel", "seenHome", "[I", true)
  | 8 => ("HookTiesModel", "seenLess", "[I", true)
  | 9 => ("HookTiesModel", "roomOf", "[I", true)
  | 10 => ("HookTiesModel", "sizes", "[I", true)
  | 11 => ("HookTiesModel", "sorts", "[I", true)
  | 12 => ("HookTiesModel", "values", "[I", true)
  | 13 => ("HookTiesModel", "first", "I", false)
  | 14 => ("HookTiesModel", "behind", "I", false)
  | 15 => ("HookTiesModel", "readHouses", "I", false)
  | 16 => ("HookTiesModel", "readThings", "I", false)
  | 17 => ("HookTiesModel", "clauses", "I", false)
  | 18 => ("HookTiesModel", "doing", "Z", false)
  | 19 => ("HookTiesModel", "numbers", "[I", true)
  | 20 => ("HookTiesModel", "commonsWord", "[I", true)
  | 21 => ("HookTiesModel", "houseWord", "[I", true)
  | 22 => ("HookTiesModel", "panWord", "[I", true)
  | 23 => ("HookTiesModel", "spoonWord", "[I", true)
  | 24 => ("HookTiesModel", "pipeWord", "[I", true)
  | 25 => ("HookTiesModel", "shoeWord", "[I", true)
  | 26 => ("HookTiesModel", "capWord", "[I", true)
  | 27 => ("HookTiesModel", "wantWord", "[I", true)
  | 28 => ("HookTiesModel", "links", "[I", true)
  | _ => ("HookTiesModel", "sent", "[I", true)
def tyX7 : Nat → FieldType := fun k => match k with
  | 0 => .array .int
  | 1 => .int
  | 2 => .array .boolean
  | 3 => .array .int
  | 4 => .int
  | 5 => .int
  | 6 => .array .int
  | 7 => .array .int
  | 8 => .array .int
  | 9 => .array .int
  | 10 => .array .int
  | 11 => .array .int
  | 12 => .array .int
  | 13 => .int
  | 14 => .int
  | 15 => .int
  | 16 => .int
  | 17 => .int
  | 18 => .boolean
  | 19 => .array .int
  | 20 => .array .int
  | 21 => .array .int
  | 22 => .array .int
  | 23 => .array .int
  | 24 => .array .int
  | 25 => .array .int
  | 26 => .array .int
  | 27 => .array .int
  | 28 => .array .int
  | _ => .array .int
abbrev wsX70 : List Cond := u_ws RX7 TX7 30
theorem nmX7 : ∀ a, a < 30 → ∀ b, b < 30 → a ≠ b → (TX7 a).2.1 ≠ (TX7 b).2.1 := by decide +kernel
theorem tyX7_ok : ∀ k, k < 30 → parseFieldDescriptor (TX7 k).2.2.1 = some (tyX7 k) := by decide +kernel
abbrev cls : List vw_C := [(RX0, TX0, 3), (RX1, TX1, 5), (RX2, TX2, 4), (RX3, TX3, 4), (RX4, TX4, 6), (RX5, TX5, 7), (RX6, TX6, 15), (RX7, TX7, 30)]
def cnL : List String := ["HookTies$Net", "HookTies$Rack", "HookTies$Sights", "HookTies$State", "HookTies$Text", "HookTies$Told", "HookTies", "HookTiesModel", "java/lang/Object", "java/util/Arrays", "java/lang/String", "java/lang/StringLatin1", "jdk/internal/util/Preconditions", "java/lang/StringUTF16", "java/lang/Math", "java/lang/Integer", "HookTiesLaw"]
def cn (k : Nat) : String := cnL.getD k ""
def mtI : List Nat := [108, 111, 116, 120, 164, 189, 219, 237, 258, 283, 287, 295, 345, 349, 353, 357, 362, 366, 369, 373, 378, 382, 386, 392, 396, 399, 402, 407, 410, 413, 416, 420, 430, 435, 440, 444, 448, 457, 461, 466, 470, 474, 477, 481, 485, 489, 493, 497, 500, 508, 511, 518, 522, 526, 530, 534, 538, 543, 547, 553, 557, 561, 564, 568, 572, 576, 580, 583, 590, 594, 598, 602, 606, 610, 614, 618, 622, 627, 631, 636, 640, 644, 648, 652, 656, 660, 664, 668, 673, 677, 680, 684, 688, 692, 698, 702, 706, 710, 714, 718, 723, 726, 729, 732, 736, 739, 743, 747, 751, 755, 759, 763, 768, 772, 776, 780, 785, 789, 793, 797, 802, 898, 902, 906, 910, 914, 918, 921, 926, 932, 936, 940, 944, 948, 952, 956, 960, 964, 968, 972, 976, 980, 984, 988, 991, 995, 999, 1003, 1006, 1010, 1015, 1019, 1024, 1028, 1032, 1036, 1040, 1045, 1049, 1053, 1057, 1061, 1065, 1069, 1073, 1078, 1082, 1086, 1090, 1094, 1098, 1102, 1106, 1110, 1116, 1120, 1124, 1128, 1132, 1137, 1142, 1146, 1150, 1155, 1158, 1163, 1167, 1174, 1179, 1183, 1187, 1191, 1195, 1199, 1203]
def mtK : List Nat := [6, 8, 5, 9, 3, 4, 0, 2, 1, 6, 3, 1, 6, 6, 6, 5, 4, 4, 4, 4, 4, 10, 10, 10, 10, 11, 10, 12, 13, 13, 13, 13, 5, 4, 4, 4, 4, 4, 5, 6, 6, 6, 6, 6, 3, 6, 6, 3, 6, 6, 6, 6, 6, 6, 3, 3, 3, 3, 3, 6, 6, 6, 14, 6, 6, 6, 6, 15, 6, 6, 6, 6, 6, 6, 6, 6, 0, 0, 0, 0, 0, 6, 6, 0, 6, 6, 6, 6, 6, 0, 15, 0, 6, 0, 6, 2, 6, 6, 2, 2, 6, 6, 6, 14, 6, 6, 1, 6, 6, 1, 6, 1, 6, 1, 6, 1, 6, 6, 6, 6, 7, 7, 7, 7, 7, 7, 7, 7, 7, 7, 7, 7, 7, 7, 7, 7, 7, 7, 7, 7, 7, 7, 7, 7, 7, 7, 7, 7, 7, 7, 7, 7, 7, 7, 7, 7, 7, 7, 7, 7, 7, 7, 7, 7, 7, 7, 7, 7, 7, 7, 7, 7, 7, 7, 7, 7, 7, 7, 7, 7, 7, 7, 7, 7, 7, 7, 7, 7, 7, 7, 7, 7, 7, 7, 7, 16]
def mtN : List Nat := [0, 0, 0, 2, 0, 0, 0, 0, 0, 0, 1, 0, 1, 0, 0, 1, 1, 0, 1, 1, 1, 0, 0, 1, 0, 2, 2, 3, 2, 2, 1, 2, 0, 1, 1, 2, 0, 2, 4, 0, 2, 1, 2, 2, 1, 2, 1, 2, 2, 2, 2, 2, 1, 0, 1, 2, 1, 1, 1, 2, 1, 2, 2, 0, 0, 1, 1, 1, 0, 1, 1, 3, 1, 1, 0, 1, 2, 2, 1, 2, 2, 0, 2, 2, 1, 0, 3, 3, 2, 0, 1, 3, 2, 2, 3, 3, 0, 0, 0, 1, 0, 3, 4, 2, 2, 1, 1, 4, 3, 3, 3, 1, 3, 2, 2, 1, 1, 1, 0, 0, 0, 1, 3, 0, 0, 1, 0, 1, 1, 0, 0, 1, 1, 3, 0, 0, 0, 0, 3, 2, 1, 1, 1, 2, 2, 2, 1, 2, 2, 2, 2, 1, 0, 1, 2, 2, 2, 0, 1, 0, 1, 0, 1, 1, 3, 1, 1, 1, 2, 2, 1, 0, 2, 1, 0, 2, 2, 0, 2, 3, 0, 0, 0, 2, 1, 4, 3, 3, 3, 2, 1, 1, 0, 0, 0, 1]
/-- 0 static, 1 of an object, 2 a constructor -/
def mtS : List Nat := [2, 2, 2, 0, 2, 2, 2, 2, 2, 1, 1, 1, 1, 1, 1, 1, 1, 1, 0, 1, 1, 1, 1, 1, 1, 0, 0, 0, 0, 0, 0, 0, 1, 1, 1, 1, 1, 1, 1, 1, 1, 1, 0, 1, 1, 1, 1, 1, 0, 1, 0, 1, 1, 1, 1, 1, 1, 1, 1, 1, 1, 1, 0, 1, 1, 1, 1, 0, 1, 1, 1, 1, 1, 1, 1, 1, 1, 1, 1, 1, 1, 1, 1, 1, 1, 1, 1, 1, 1, 1, 0, 1, 0, 1, 1, 1, 1, 1, 1, 1, 1, 0, 0, 0, 1, 0, 1, 1, 1, 1, 1, 1, 1, 1, 1, 1, 1, 1, 1, 1, 2, 1, 0, 1, 1, 1, 1, 0, 0, 1, 1, 1, 1, 1, 1, 1, 1, 1, 1, 1, 1, 1, 1, 1, 0, 1, 1, 1, 0, 1, 1, 1, 1, 1, 1, 1, 1, 1, 1, 1, 0, 1, 1, 1, 1, 1, 1, 1, 1, 1, 1, 1, 1, 1, 1, 1, 1, 1, 1, 1, 1, 1, 1, 1, 0, 1, 1, 1, 1, 1, 1, 1, 1, 1, 1, 0]
def mtW : List (Nat × Nat × Nat) := [(88, 107, 99999), (99999, 110, 99999), (89, 115, 99999), (90, 119, 99999), (91, 163, 99999), (92, 188, 99999), (93, 218, 99999), (94, 236, 99999), (95, 257, 99999), (88, 282, 0), (91, 286, 1), (95, 294, 2), (88, 343, 344), (88, 347, 348), (88, 351, 352), (89, 356, 3), (92, 361, 4), (92, 365, 5), (92, 368, 99999), (92, 372, 6), (92, 377, 7), (98, 380, 381), (98, 384, 385), (98, 390, 391), (98, 394, 395), (99, 398, 99999), (98, 401, 99999), (100, 406, 99999), (101, 409, 99999), (101, 412, 99999), (101, 415, 99999), (101, 419, 99999), (89, 429, 8), (92, 434, 9), (92, 439, 10), (92, 443, 11), (92, 447, 12), (92, 456, 13), (89, 460, 14), (88, 464, 465), (88, 468, 469), (88, 473, 15), (88, 476, 99999), (88, 480, 16), (91, 484, 17), (88, 487, 488), (88, 492, 18), (91, 496, 19), (88, 499, 99999), (88, 506, 507), (88, 510, 99999), (88, 516, 517), (88, 520, 521), (88, 525, 20), (91, 529, 21), (91, 533, 22), (91, 537, 23), (91, 542, 24), (91, 546, 25), (88, 551, 552), (88, 556, 26), (88, 559, 560), (102, 563, 99999), (88, 566, 567), (88, 571, 27), (88, 575, 28), (88, 579, 29), (103, 582, 99999), (88, 588, 589), (88, 592, 593), (88, 596, 597), (88, 600, 601), (88, 605, 30), (88, 608, 609), (88, 612, 613), (88, 616, 617), (93, 621, 31), (93, 626, 32), (93, 630, 33), (93, 635, 34), (93, 639, 35), (88, 642, 643), (88, 646, 647), (93, 651, 36), (88, 654, 655), (88, 659, 37), (88, 663, 38), (88, 667, 39), (88, 671, 672), (93, 676, 40), (103, 679, 99999), (93, 683, 41), (88, 687, 99999), (93, 691, 42), (88, 696, 697), (94, 701, 43), (88, 704, 705), (88, 708, 709), (94, 713, 44), (94, 717, 45), (88, 721, 722), (88, 725, 99999), (88, 728, 99999), (102, 731, 99999), (88, 734, 735), (88, 738, 99999), (95, 742, 46), (88, 745, 746), (88, 750, 47), (95, 754, 48), (88, 757, 758), (95, 762, 49), (88, 766, 767), (95, 771, 50), (88, 774, 775), (95, 779, 51), (88, 783, 784), (88, 787, 788), (88, 792, 52), (88, 796, 53), (97, 801, 99999), (97, 896, 897), (97, 901, 99999), (97, 904, 905), (97, 908, 909), (97, 913, 54), (97, 917, 55), (97, 920, 99999), (97, 925, 99999), (97, 931, 56), (97, 935, 57), (97, 939, 58), (97, 943, 59), (97, 947, 60), (97, 951, 61), (97, 955, 62), (97, 959, 63), (97, 962, 963), (97, 967, 64), (97, 970, 971), (97, 975, 65), (97, 979, 66), (97, 983, 67), (97, 987, 68), (97, 990, 99999), (97, 993, 994), (97, 998, 69), (97, 1002, 70), (97, 1005, 99999), (97, 1008, 1009), (97, 1013, 1014), (97, 1017, 1018), (97, 1023, 71), (97, 1027, 72), (97, 1030, 1031), (97, 1035, 73), (97, 1038, 1039), (97, 1043, 1044), (97, 1048, 74), (97, 1051, 1052), (97, 1056, 99999), (97, 1059, 1060), (97, 1063, 1064), (97, 1067, 1068), (97, 1071, 1072), (97, 1077, 75), (97, 1080, 1081), (97, 1084, 1085), (97, 1089, 76), (97, 1093, 77), (97, 1097, 78), (97, 1100, 1101), (97, 1104, 1105), (97, 1108, 1109), (97, 1115, 79), (97, 1119, 80), (97, 1123, 81), (97, 1127, 82), (97, 1130, 1131), (97, 1135, 1136), (97, 1140, 1141), (97, 1144, 1145), (97, 1148, 1149), (97, 1153, 1154), (97, 1157, 99999), (97, 1161, 1162), (97, 1166, 83), (97, 1172, 1173), (97, 1177, 1178), (97, 1181, 1182), (97, 1185, 1186), (97, 1189, 1190), (97, 1194, 84), (97, 1198, 85), (97, 1202, 86)]
abbrev aMI : Type := MethodName × ByteArray × Nat × Option FieldType
def mLaw : Nat := 195
def mtE (M : Nat) : Option aMI := if M = 195 then some (x, code, maxLocals, ret) else match lw_tbl[(mtI.getD M 99999)]? with
  | some (.code y b n r) => some (y, b, n, r)
  | _ => none
def mY (M : Nat) : MethodName := match mtE M with
  | some e => e.1
  | none => ⟨"", "", ""⟩
def mC (M : Nat) : ByteArray := match mtE M with
  | some e => e.2.1
  | none => ⟨#[]⟩
def mL (M : Nat) : Nat := match mtE M with
  | some e => e.2.2.1
  | none => 0
def mR (M : Nat) : Option FieldType := match mtE M with
  | some e => e.2.2.2
  | none => none
def mK (M : Nat) : Nat := mtK.getD M 99
def mS (M : Nat) : Nat := mtS.getD M 99
def mP (M : Nat) : Nat := mtN.getD M 99
abbrev m_Ht_init : Nat := 0
abbrev m_Object_init : Nat := 1
abbrev m_Told_init : Nat := 2
abbrev m_Arrays_fill : Nat := 3
abbrev m_State_init : Nat := 4
abbrev m_Text_init : Nat := 5
abbrev m_Net_init : Nat := 6
abbrev m_Sights_init : Nat := 7
abbrev m_Rack_init : Nat := 8
abbrev m_Ht_beginAsTold : Nat := 9
abbrev m_State_beginAs : Nat := 10
abbrev m_Rack_takeAway : Nat := 11
abbrev m_Ht_write : Nat := 12
abbrev m_Ht_erase : Nat := 13
abbrev m_Ht_fault : Nat := 14
abbrev m_Told_copyFrom : Nat := 15
abbrev m_Text_readInto : Nat := 16
abbrev m_Text_step : Nat := 17
abbrev m_Text_typeOf : Nat := 18
abbrev m_Text_readClause : Nat := 19
abbrev m_Text_isWord : Nat := 20
abbrev m_String_length : Nat := 21
abbrev m_String_coder : Nat := 22
abbrev m_String_charAt : Nat := 23
abbrev m_String_isLatin1 : Nat := 24
abbrev m_StringLatin1_charAt : Nat := 25
abbrev m_String_checkIndex : Nat := 26
abbrev m_Preconditions_checkIndex : Nat := 27
abbrev m_StringUTF16_charAt : Nat := 28
abbrev m_StringUTF16_checkIndex : Nat := 29
abbrev m_StringUTF16_length : Nat := 30
abbrev m_StringUTF16_getChar : Nat := 31
abbrev m_Told_clearAll : Nat := 32
abbrev m_Text_readHouse : Nat := 33
abbrev m_Text_readWant : Nat := 34
abbrev m_Text_readNumber : Nat := 35
abbrev m_Text_kindHere : Nat := 36
abbrev m_Text_readThing : Nat := 37
abbrev m_Told_addThing : Nat := 38
abbrev m_Ht_commons : Nat := 39
abbrev m_Ht_house : Nat := 40
abbrev m_Ht_isHouse : Nat := 41
abbrev m_Ht_bitOf : Nat := 42
abbrev m_Ht_thingsWhere : Nat := 43
abbrev m_State_tied : Nat := 44
abbrev m_Ht_thing : Nat := 45
abbrev m_Ht_isThing : Nat := 46
abbrev m_State_wearOf : Nat := 47
abbrev m_Ht_wearBy : Nat := 48
abbrev m_Ht_as : Nat := 49
abbrev m_Ht_isUnder : Nat := 50
abbrev m_Ht_want : Nat := 51
abbrev m_Ht_year : Nat := 52
abbrev m_Ht_remember : Nat := 53
abbrev m_State_copyFrom : Nat := 54
abbrev m_State_passYears : Nat := 55
abbrev m_State_wearAll : Nat := 56
abbrev m_State_leaveUntied : Nat := 57
abbrev m_State_inside : Nat := 58
abbrev m_Ht_send : Nat := 59
abbrev m_Ht_wouldUntie : Nat := 60
abbrev m_Ht_patch : Nat := 61
abbrev m_Math_min : Nat := 62
abbrev m_Ht_trade : Nat := 63
abbrev m_Ht_housesOnRings : Nat := 64
abbrev m_Ht_isOnRing : Nat := 65
abbrev m_Ht_arrowOf : Nat := 66
abbrev m_Integer_bitCount : Nat := 67
abbrev m_Ht_undo : Nat := 68
abbrev m_Ht_keep : Nat := 69
abbrev m_Ht_back : Nat := 70
abbrev m_Ht_behind : Nat := 71
abbrev m_Ht_foretell : Nat := 72
abbrev m_Ht_leaves : Nat := 73
abbrev m_Ht_rings : Nat := 74
abbrev m_Ht_pieces : Nat := 75
abbrev m_Net_draw : Nat := 76
abbrev m_Net_endsOf : Nat := 77
abbrev m_Net_parts : Nat := 78
abbrev m_Net_reachOf : Nat := 79
abbrev m_Net_widened : Nat := 80
abbrev m_Ht_hangs : Nat := 81
abbrev m_Ht_way : Nat := 82
abbrev m_Net_stepsBetween : Nat := 83
abbrev m_Ht_knit : Nat := 84
abbrev m_Ht_fewestToKnit : Nat := 85
abbrev m_Ht_knitsBy : Nat := 86
abbrev m_Ht_knitsBySending : Nat := 87
abbrev m_Ht_whole : Nat := 88
abbrev m_Net_links : Nat := 89
abbrev m_Integer_lowestOneBit : Nat := 90
abbrev m_Net_weightOfAllReached : Nat := 91
abbrev m_Ht_power : Nat := 92
abbrev m_Net_openLinkOutOf : Nat := 93
abbrev m_Ht_seen : Nat := 94
abbrev m_Sights_note : Nat := 95
abbrev m_Ht_forget : Nat := 96
abbrev m_Ht_kinds : Nat := 97
abbrev m_Sights_fittingKinds : Nat := 98
abbrev m_Sights_fits : Nat := 99
abbrev m_Ht_ask : Nat := 100
abbrev m_Ht_mostAlike : Nat := 101
abbrev m_Ht_alikeWith : Nat := 102
abbrev m_Math_max : Nat := 103
abbrev m_Ht_hooks : Nat := 104
abbrev m_Ht_isRack : Nat := 105
abbrev m_Rack_renew : Nat := 106
abbrev m_Ht_hang : Nat := 107
abbrev m_Ht_refusedAsSuch : Nat := 108
abbrev m_Rack_putAt : Nat := 109
abbrev m_Ht_unhang : Nat := 110
abbrev m_Rack_takeFrom : Nat := 111
abbrev m_Ht_find : Nat := 112
abbrev m_Rack_firstPlaceOf : Nat := 113
abbrev m_Ht_join : Nat := 114
abbrev m_Rack_putAllBehind : Nat := 115
abbrev m_Ht_drop : Nat := 116
abbrev m_Ht_count : Nat := 117
abbrev m_Ht_worthOfAll : Nat := 118
abbrev m_Ht_hungOnAll : Nat := 119
abbrev m_Mod_init : Nat := 120
abbrev m_Mod_write : Nat := 121
abbrev m_Mod_in : Nat := 122
abbrev m_Mod_erase : Nat := 123
abbrev m_Mod_fault : Nat := 124
abbrev m_Mod_reads : Nat := 125
abbrev m_Mod_nextToken : Nat := 126
abbrev m_Mod_isLetter : Nat := 127
abbrev m_Mod_isDigit : Nat := 128
abbrev m_Mod_readsClause : Nat := 129
abbrev m_Mod_kindHere : Nat := 130
abbrev m_Mod_isWord : Nat := 131
abbrev m_Mod_readsThing : Nat := 132
abbrev m_Mod_number : Nat := 133
abbrev m_Mod_readsCommons : Nat := 134
abbrev m_Mod_readsHouse : Nat := 135
abbrev m_Mod_readsWant : Nat := 136
abbrev m_Mod_commons : Nat := 137
abbrev m_Mod_copyRow : Nat := 138
abbrev m_Mod_house : Nat := 139
abbrev m_Mod_isHouse : Nat := 140
abbrev m_Mod_thingsAt : Nat := 141
abbrev m_Mod_thingsOf : Nat := 142
abbrev m_Mod_isTied : Nat := 143
abbrev m_Mod_has : Nat := 144
abbrev m_Mod_thing : Nat := 145
abbrev m_Mod_isThing : Nat := 146
abbrev m_Mod_wears : Nat := 147
abbrev m_Mod_wearsBy : Nat := 148
abbrev m_Mod_as : Nat := 149
abbrev m_Mod_want : Nat := 150
abbrev m_Mod_year : Nat := 151
abbrev m_Mod_keepPast : Nat := 152
abbrev m_Mod_passes : Nat := 153
abbrev m_Mod_send : Nat := 154
abbrev m_Mod_isLoosed : Nat := 155
abbrev m_Mod_patch : Nat := 156
abbrev m_Mod_rings : Nat := 157
abbrev m_Mod_arrow : Nat := 158
abbrev m_Mod_trade : Nat := 159
abbrev m_Mod_bits : Nat := 160
abbrev m_Mod_undo : Nat := 161
abbrev m_Mod_keep : Nat := 162
abbrev m_Mod_back : Nat := 163
abbrev m_Mod_behind : Nat := 164
abbrev m_Mod_layTried : Nat := 165
abbrev m_Mod_leaves : Nat := 166
abbrev m_Mod_pieces : Nat := 167
abbrev m_Mod_piecesIn : Nat := 168
abbrev m_Mod_layLinks : Nat := 169
abbrev m_Mod_partOf : Nat := 170
abbrev m_Mod_hangs : Nat := 171
abbrev m_Mod_way : Nat := 172
abbrev m_Mod_knit : Nat := 173
abbrev m_Mod_knitsByOne : Nat := 174
abbrev m_Mod_sendsOne : Nat := 175
abbrev m_Mod_isSendable : Nat := 176
abbrev m_Mod_knitsByTwo : Nat := 177
abbrev m_Mod_whole : Nat := 178
abbrev m_Mod_seen : Nat := 179
abbrev m_Mod_forget : Nat := 180
abbrev m_Mod_kinds : Nat := 181
abbrev m_Mod_ask : Nat := 182
abbrev m_Mod_hooks : Nat := 183
abbrev m_Mod_isHooks : Nat := 184
abbrev m_Mod_hang : Nat := 185
abbrev m_Mod_noSuch : Nat := 186
abbrev m_Mod_unhang : Nat := 187
abbrev m_Mod_find : Nat := 188
abbrev m_Mod_join : Nat := 189
abbrev m_Mod_drop : Nat := 190
abbrev m_Mod_count : Nat := 191
abbrev m_Mod_tiedOnes : Nat := 192
abbrev m_Mod_allWorth : Nat := 193
abbrev m_Mod_allHanging : Nat := 194
def mtChk (M : Nat) : Bool := decide (cn (mK M) = (mY M).cls) && decide ((parseMethodDescriptor (mY M).desc).map (fun d => d.parameters.length) = some (mP M)) && (plainName (mY M).cls || decide (M = m_Object_init ∨ M = m_Math_max ∨ M = m_Math_min)) && decide ((mY M).cls ≠ "java/lang/invoke/MethodHandle") && decide ((mY M).cls ≠ "java/lang/invoke/VarHandle")
  && (match mS M with
     | 0 => decide (lw_tbl[(mtW.getD M (99999, 99999, 99999)).1]? = some (.initialized (mY M).cls)) && decide (lw_tbl[(mtW.getD M (99999, 99999, 99999)).2.1]? = some (.static (mY M)))
     | 1 => decide (lw_tbl[(mtW.getD M (99999, 99999, 99999)).1]? = some (.initialized (mY M).cls)) && decide (lw_tbl[(mtW.getD M (99999, 99999, 99999)).2.1]? = some (.instanceMethod (mY M))) && decide (lw_tbl[(mtW.getD M (99999, 99999, 99999)).2.2]? = some (.selects (mY M).cls (mY M) (mY M)))
     | 2 => (decide (M = m_Object_init) || decide (lw_tbl[(mtW.getD M (99999, 99999, 99999)).1]? = some (.initialized (mY M).cls))) && decide (lw_tbl[(mtW.getD M (99999, 99999, 99999)).2.1]? = some (.instanceMethod (mY M))) && decide ((mY M).name = "<init>")
     | _ => false)
set_option maxRecDepth 100000 in
theorem mt_chk : (List.range 195).all mtChk = true := by decide +kernel
/-- links of methods: class, entry, kind (3 Object(), 4 arraycopy), callee, of a nest mate, place of its word -/
def lkM : List (Nat × Nat × Nat × Nat × Bool × Nat) := [(16, 9, 2, 0, false, 106), (6, 1, 3, 1, false, 109), (6, 9, 2, 2, true, 114), (5, 3, 3, 1, false, 117), (5, 34, 0, 3, false, 118), (6, 21, 2, 4, true, 162), (3, 3, 3, 1, false, 165), (6, 50, 2, 5, true, 187), (4, 3, 3, 1, false, 190), (6, 57, 2, 6, true, 217), (0, 3, 3, 1, false, 220), (6, 70, 2, 7, true, 235), (2, 3, 3, 1, false, 238), (6, 81, 2, 8, true, 256), (1, 3, 3, 1, false, 259), (6, 82, 1, 9, false, 280), (6, 285, 1, 10, true, 284), (3, 25, 4, 0, false, 288), (6, 291, 4, 0, false, 291), (6, 264, 1, 11, true, 292), (16, 13, 1, 12, false, 342), (16, 18, 1, 13, false, 346), (16, 23, 1, 14, false, 350), (6, 92, 1, 15, true, 354), (5, 40, 4, 0, false, 358), (6, 96, 1, 16, true, 359), (4, 31, 1, 17, false, 363), (4, 102, 0, 18, false, 367), (4, 34, 1, 19, false, 370), (4, 40, 1, 20, false, 375), (4, 94, 1, 21, false, 379), (10, 335, 1, 22, false, 383), (4, 98, 1, 23, false, 389), (10, 492, 1, 24, false, 393), (10, 495, 0, 25, false, 397), (11, 9, 0, 26, false, 400), (10, 1059, 0, 27, false, 405), (10, 498, 0, 28, false, 408), (13, 67, 0, 29, false, 411), (13, 48, 0, 30, false, 414), (13, 414, 0, 26, false, 417), (13, 71, 0, 31, false, 418), (4, 44, 1, 32, true, 427), (4, 51, 1, 33, false, 432), (4, 56, 1, 34, false, 437), (4, 70, 1, 35, false, 441), (4, 59, 1, 36, false, 445), (4, 63, 1, 37, false, 454), (4, 80, 1, 38, true, 458), (16, 27, 1, 39, false, 463), (16, 31, 1, 40, false, 467), (6, 103, 1, 41, false, 471), (6, 110, 0, 42, false, 475), (6, 117, 1, 43, false, 478), (6, 124, 1, 44, true, 482), (16, 36, 1, 45, false, 486), (6, 127, 1, 46, false, 490), (6, 136, 1, 47, true, 494), (3, 47, 0, 48, true, 498), (16, 40, 1, 49, false, 505), (6, 140, 0, 50, false, 509), (6, 144, 0, 48, false, 514), (16, 44, 1, 51, false, 515), (16, 48, 1, 52, false, 519), (6, 151, 1, 53, false, 523), (6, 179, 1, 54, true, 527), (6, 154, 1, 55, true, 531), (3, 51, 1, 56, false, 535), (3, 58, 1, 47, false, 539), (3, 55, 1, 57, false, 540), (3, 62, 1, 58, false, 544), (3, 66, 1, 44, false, 548), (3, 69, 0, 42, true, 549), (16, 52, 1, 59, false, 550), (6, 158, 1, 60, false, 554), (16, 56, 1, 61, false, 558), (6, 161, 6, 62, false, 562), (16, 60, 1, 63, false, 565), (6, 166, 1, 64, false, 569), (6, 300, 1, 65, false, 573), (6, 297, 1, 66, false, 577), (6, 173, 0, 67, false, 581), (16, 64, 1, 68, false, 587), (16, 68, 1, 69, false, 591), (16, 72, 1, 70, false, 595), (16, 76, 1, 71, false, 599), (6, 182, 1, 72, false, 603), (16, 81, 1, 73, false, 607), (16, 85, 1, 74, false, 611), (16, 89, 1, 75, false, 615), (6, 186, 1, 76, true, 619), (0, 22, 1, 58, true, 623), (0, 36, 1, 77, false, 624), (6, 193, 1, 78, true, 628), (0, 43, 0, 42, true, 632), (0, 46, 1, 79, false, 633), (0, 40, 1, 80, false, 637), (16, 93, 1, 81, false, 641), (16, 97, 1, 82, false, 645), (6, 196, 1, 83, true, 649), (16, 101, 1, 84, false, 653), (6, 199, 1, 85, false, 657), (6, 303, 1, 86, false, 661), (6, 307, 1, 87, false, 665), (6, 313, 1, 77, true, 669), (16, 105, 1, 88, false, 670), (6, 202, 1, 89, true, 674), (6, 205, 0, 90, false, 678), (6, 208, 1, 91, true, 681), (0, 49, 0, 67, false, 685), (0, 55, 0, 92, true, 686), (0, 58, 1, 93, false, 689), (0, 61, 1, 91, false, 693), (6, 212, 0, 92, false, 694), (16, 109, 1, 94, false, 695), (6, 218, 1, 95, true, 699), (16, 113, 1, 96, false, 703), (16, 117, 1, 97, false, 707), (6, 222, 1, 98, true, 711), (2, 26, 1, 99, false, 715), (2, 30, 0, 48, true, 719), (16, 121, 1, 100, false, 720), (6, 225, 0, 101, false, 724), (6, 316, 0, 102, false, 727), (6, 320, 5, 103, false, 730), (16, 125, 1, 104, false, 733), (6, 229, 0, 105, false, 737), (6, 232, 1, 106, true, 740), (16, 129, 1, 107, false, 744), (6, 235, 1, 108, false, 748), (6, 246, 1, 109, true, 752), (16, 134, 1, 110, false, 756), (6, 253, 1, 111, true, 760), (16, 138, 1, 112, false, 765), (6, 257, 1, 113, true, 769), (16, 142, 1, 114, false, 773), (6, 260, 1, 115, true, 777), (1, 29, 1, 109, false, 781), (16, 146, 1, 116, false, 782), (16, 150, 1, 117, false, 786), (6, 270, 1, 118, false, 790), (6, 273, 1, 119, false, 794), (16, 12, 2, 120, false, 800), (7, 1, 3, 1, false, 803), (16, 17, 1, 121, false, 895), (7, 76, 0, 122, false, 900), (16, 22, 1, 123, false, 903), (16, 26, 1, 124, false, 907), (7, 149, 1, 125, false, 911), (7, 105, 1, 126, false, 915), (7, 98, 0, 127, false, 919), (7, 102, 0, 128, false, 924), (7, 146, 1, 129, false, 929), (7, 126, 1, 130, false, 933), (7, 108, 1, 131, false, 937), (7, 130, 1, 132, false, 941), (7, 118, 1, 133, false, 945), (7, 133, 1, 134, false, 949), (7, 137, 1, 135, false, 953), (7, 140, 1, 136, false, 957), (16, 30, 1, 137, false, 961), (7, 153, 1, 138, false, 965), (16, 35, 1, 139, false, 969), (7, 178, 1, 140, false, 973), (7, 181, 1, 141, false, 977), (7, 185, 1, 142, false, 981), (7, 175, 1, 143, false, 985), (7, 167, 0, 144, false, 989), (16, 39, 1, 145, false, 992), (7, 188, 1, 146, false, 996), (7, 171, 1, 147, false, 1000), (7, 163, 0, 148, false, 1004), (16, 43, 1, 149, false, 1007), (16, 47, 1, 150, false, 1012), (16, 51, 1, 151, false, 1016), (7, 195, 1, 152, false, 1021), (7, 198, 1, 153, false, 1025), (16, 55, 1, 154, false, 1029), (7, 202, 1, 155, false, 1033), (16, 59, 1, 156, false, 1037), (16, 88, 1, 157, false, 1042), (7, 207, 1, 158, false, 1046), (16, 63, 1, 159, false, 1050), (7, 210, 1, 157, false, 1054), (7, 213, 0, 160, false, 1055), (16, 67, 1, 161, false, 1058), (16, 71, 1, 162, false, 1062), (16, 75, 1, 163, false, 1066), (16, 80, 1, 164, false, 1070), (7, 218, 1, 165, false, 1075), (16, 84, 1, 166, false, 1079), (16, 92, 1, 167, false, 1083), (7, 228, 1, 168, false, 1087), (7, 221, 1, 169, false, 1091), (7, 225, 1, 170, false, 1095), (16, 96, 1, 171, false, 1099), (16, 100, 1, 172, false, 1103), (16, 104, 1, 173, false, 1107), (7, 241, 1, 174, false, 1113), (7, 234, 1, 175, false, 1117), (7, 231, 1, 176, false, 1121), (7, 244, 1, 177, false, 1125), (16, 108, 1, 178, false, 1129), (16, 112, 1, 179, false, 1134), (16, 116, 1, 180, false, 1139), (16, 120, 1, 181, false, 1143), (16, 124, 1, 182, false, 1147), (7, 251, 1, 181, false, 1151), (16, 128, 1, 183, false, 1152), (7, 256, 0, 184, false, 1156), (16, 133, 1, 185, false, 1160), (7, 265, 1, 186, false, 1164), (16, 137, 1, 187, false, 1171), (16, 141, 1, 188, false, 1176), (16, 145, 1, 189, false, 1180), (16, 149, 1, 190, false, 1184), (16, 153, 1, 191, false, 1188), (7, 270, 1, 192, false, 1192), (7, 273, 1, 193, false, 1196), (7, 276, 1, 194, false, 1200)]
def lkMc (e : Nat × Nat × Nat × Nat × Bool × Nat) : Bool := (if e.2.2.2.2.1 then decide (lw_tbl[e.2.2.2.2.2]? = some (.methodLinkNest (cn e.1) e.2.1 (mY e.2.2.2.1) "HookTies")) else decide (lw_tbl[e.2.2.2.2.2]? = some (.methodLink (cn e.1) e.2.1 (if e.2.2.1 = 4 then arraycopyName else mY e.2.2.2.1)))) && (decide (e.2.2.1 = 4 ∧ e.2.2.2.2.1 = false) || decide (e.2.2.1 = 3 ∧ e.2.2.2.1 = m_Object_init ∧ e.2.2.2.2.1 = false) || decide (e.2.2.1 = 5 ∧ e.2.2.2.1 = m_Math_max ∧ e.2.2.2.2.1 = false) || decide (e.2.2.1 = 6 ∧ e.2.2.2.1 = m_Math_min ∧ e.2.2.2.2.1 = false) || decide (e.2.2.1 = mS e.2.2.2.1 ∧ e.2.2.1 < 3 ∧ e.2.2.2.1 < 195 ∧ e.2.2.2.1 ≠ m_Object_init ∧ e.2.2.2.1 ≠ m_Math_max ∧ e.2.2.2.1 ≠ m_Math_min))
set_option maxRecDepth 100000 in
theorem lkM_chk : lkM.all lkMc = true := by decide +kernel
/-- links of fields: class, entry, class of the field, its number, of a nest mate, place of its word -/
def lkF : List (Nat × Nat × Nat × Nat × Bool × Nat) := [(5, 9, 5, 0, false, 121), (4, 67, 5, 0, true, 122), (3, 35, 5, 0, true, 123), (6, 170, 5, 0, true, 124), (5, 15, 5, 1, false, 125), (0, 27, 5, 1, true, 126), (3, 38, 5, 1, true, 127), (4, 74, 5, 1, true, 128), (6, 267, 5, 1, true, 129), (5, 18, 5, 2, false, 130), (3, 44, 5, 2, true, 131), (6, 130, 5, 2, true, 132), (5, 22, 5, 3, false, 133), (0, 33, 5, 3, true, 134), (3, 41, 5, 3, true, 135), (6, 121, 5, 3, true, 136), (5, 25, 5, 4, false, 137), (3, 31, 5, 4, true, 138), (5, 28, 5, 5, false, 139), (3, 34, 5, 5, true, 140), (5, 31, 5, 6, false, 141), (4, 77, 5, 6, true, 142), (6, 288, 5, 6, true, 143), (3, 9, 3, 0, false, 166), (0, 30, 3, 0, true, 167), (6, 114, 3, 0, true, 168), (3, 15, 3, 1, false, 169), (6, 133, 3, 1, true, 170), (3, 18, 3, 2, false, 171), (6, 107, 3, 2, true, 172), (3, 22, 3, 3, false, 173), (6, 148, 3, 3, true, 174), (4, 9, 4, 0, false, 191), (6, 88, 4, 0, true, 192), (4, 15, 4, 1, false, 193), (6, 85, 4, 1, true, 194), (4, 19, 4, 2, false, 195), (6, 100, 4, 2, true, 196), (4, 22, 4, 3, false, 197), (4, 25, 4, 4, false, 198), (4, 28, 4, 5, false, 199), (0, 9, 0, 0, false, 221), (6, 190, 0, 0, true, 222), (0, 15, 0, 1, false, 223), (0, 18, 0, 2, false, 224), (6, 310, 0, 2, true, 225), (2, 9, 2, 0, false, 239), (2, 15, 2, 1, false, 240), (2, 19, 2, 2, false, 241), (2, 22, 2, 3, false, 242), (6, 215, 2, 3, true, 243), (1, 9, 1, 0, false, 260), (6, 238, 1, 0, true, 261), (1, 15, 1, 1, false, 262), (6, 243, 1, 1, true, 263), (1, 19, 1, 2, false, 264), (6, 242, 1, 2, true, 265), (1, 22, 1, 3, false, 266), (6, 250, 1, 3, true, 267), (1, 26, 1, 4, false, 268), (6, 10, 6, 0, false, 296), (6, 16, 6, 1, false, 297), (6, 22, 6, 2, false, 298), (6, 26, 6, 3, false, 299), (6, 29, 6, 4, false, 300), (6, 33, 6, 5, false, 301), (6, 37, 6, 6, false, 302), (6, 40, 6, 7, false, 303), (6, 44, 6, 8, false, 304), (6, 51, 6, 9, false, 305), (6, 58, 6, 10, false, 306), (6, 62, 6, 11, false, 307), (6, 65, 6, 12, false, 308), (6, 71, 6, 13, false, 309), (6, 77, 6, 14, false, 310), (7, 7, 7, 0, false, 804), (7, 157, 7, 1, false, 805), (7, 13, 7, 2, false, 806), (7, 17, 7, 3, false, 807), (7, 80, 7, 4, false, 808), (7, 160, 7, 5, false, 809), (7, 20, 7, 6, false, 810), (7, 23, 7, 7, false, 811), (7, 26, 7, 8, false, 812), (7, 29, 7, 9, false, 813), (7, 32, 7, 10, false, 814), (7, 35, 7, 11, false, 815), (7, 38, 7, 12, false, 816), (7, 95, 7, 13, false, 817), (7, 92, 7, 14, false, 818), (7, 115, 7, 15, false, 819), (7, 112, 7, 16, false, 820), (7, 143, 7, 17, false, 821), (7, 122, 7, 18, false, 822), (7, 41, 7, 19, false, 823), (7, 44, 7, 20, false, 824), (7, 47, 7, 21, false, 825), (7, 50, 7, 22, false, 826), (7, 53, 7, 23, false, 827), (7, 56, 7, 24, false, 828), (7, 59, 7, 25, false, 829), (7, 62, 7, 26, false, 830), (7, 65, 7, 27, false, 831), (7, 68, 7, 28, false, 832), (7, 71, 7, 29, false, 833)]
def fT (ci : Nat) : u_T := match cls[ci]? with
  | some r => r.2.1
  | none => fun _ => ("", "", "", false)
def fN (ci : Nat) : Nat := match cls[ci]? with
  | some r => r.2.2
  | none => 0
def lkFc (e : Nat × Nat × Nat × Nat × Bool × Nat) : Bool := (if e.2.2.2.2.1 then decide (lw_tbl[e.2.2.2.2.2]? = some (.fieldLinkNest (cn e.1) e.2.1 (fT e.2.2.1 e.2.2.2.1).1 (fT e.2.2.1 e.2.2.2.1).2.1 (fT e.2.2.1 e.2.2.2.1).2.2.1 "HookTies")) else decide (lw_tbl[e.2.2.2.2.2]? = some (.fieldLink (cn e.1) e.2.1 (fT e.2.2.1 e.2.2.2.1).1 (fT e.2.2.1 e.2.2.2.1).2.1 (fT e.2.2.1 e.2.2.2.1).2.2.1))) && decide (e.2.2.2.1 < fN e.2.2.1)
set_option maxRecDepth 100000 in
theorem lkF_chk : lkF.all lkFc = true := by decide +kernel
def lkS : List (Nat × Nat × Nat × Nat) := [(10, 9, 0, 1204), (10, 15, 1, 1205)]
def sfN (f : Nat) : String × String := if f = 0 then ("value", "[B") else ("coder", "B")
def lkSc (e : Nat × Nat × Nat × Nat) : Bool := decide (lw_tbl[e.2.2.2]? = some (.fieldLink (cn e.1) e.2.1 "java/lang/String" (sfN e.2.2.1).1 (sfN e.2.2.1).2)) && decide (e.2.2.1 < 2)
set_option maxRecDepth 100000 in
theorem lkS_chk : lkS.all lkSc = true := by decide +kernel
/-- statics: class, name, descriptor, what it holds -/
def sgT : List (String × String × String × Value) := [("java/lang/String", "COMPACT_STRINGS", "Z", .int 1), ("jdk/internal/util/Preconditions", "SIOOBE_FORMATTER", "Ljava/util/function/BiFunction;", .float 5), ("java/lang/StringUTF16", "$assertionsDisabled", "Z", .int 1), ("java/lang/StringUTF16", "HI_BYTE_SHIFT", "I", .int 0), ("java/lang/StringUTF16", "LO_BYTE_SHIFT", "I", .int 8), ("HookTies", "WEARS_HOME", "[I", .float 1), ("HookTies", "WEARS_AWAY", "[I", .float 0), ("HookTies", "RANK_ABOVE", "[I", .float 2)]
def lkG : List (Nat × Nat × Nat × Nat) := [(10, 38, 0, 387), (10, 1053, 1, 403), (13, 44, 2, 421), (13, 59, 3, 423), (13, 63, 4, 425), (6, 276, 5, 501), (6, 279, 6, 503), (6, 282, 7, 512)]
def sgE (k : Nat) : String × String × String × Value := sgT.getD k ("", "", "", .null)
def lkGc (e : Nat × Nat × Nat × Nat) : Bool := decide (lw_tbl[e.2.2.2]? = some (.fieldLink (cn e.1) e.2.1 (sgE e.2.2.1).1 (sgE e.2.2.1).2.1 (sgE e.2.2.1).2.2.1)) && decide (e.2.2.1 < sgT.length)
set_option maxRecDepth 100000 in
theorem lkG_chk : lkG.all lkGc = true := by decide +kernel
def lkC : List (Nat × Nat × Int32 × Nat) := [(15, 265, 1431655765, 584), (15, 266, 858993459, 585), (15, 267, 252645135, 586), (6, 256, 50000, 764), (7, 269, 50000, 1175)]
def lkCc (e : Nat × Nat × Int32 × Nat) : Bool := decide (lw_tbl[e.2.2.2]? = some (.constant (cn e.1) e.2.1 e.2.2.1))
set_option maxRecDepth 100000 in
theorem lkC_chk : lkC.all lkCc = true := by decide +kernel
def lkC2 : List (Nat × Nat × Int64 × Nat) := [(7, 74, 255, 899), (7, 84, 97, 922), (7, 86, 122, 923), (7, 88, 48, 927), (7, 90, 57, 928), (7, 191, 5, 1011), (7, 193, 12, 1020), (7, 205, 99, 1041), (7, 216, 60, 1074), (7, 237, -1, 1111), (7, 239, 3, 1112), (7, 247, 4, 1133), (7, 249, 20, 1138), (7, 254, 2, 1159), (7, 259, -9999, 1168), (7, 261, 9999, 1169), (7, 263, 25, 1170)]
def lkC2c (e : Nat × Nat × Int64 × Nat) : Bool := decide (lw_tbl[e.2.2.2]? = some (.constantLong (cn e.1) e.2.1 e.2.2.1))
set_option maxRecDepth 100000 in
theorem lkC2_chk : lkC2.all lkC2c = true := by decide +kernel
/-- links of classes: class, entry, class made; places of its word, of instantiable, of initialized -/
def lkN : List (Nat × Nat × Nat × Nat × Nat × Nat) := [(16, 7, 6, 104, 105, 88), (6, 7, 5, 112, 113, 89), (6, 19, 3, 160, 161, 91), (6, 48, 4, 185, 186, 92), (6, 55, 0, 215, 216, 93), (6, 68, 2, 233, 234, 94), (6, 75, 1, 253, 255, 95), (16, 10, 7, 798, 799, 97)]
def lkNc (e : Nat × Nat × Nat × Nat × Nat × Nat) : Bool := decide (lw_tbl[e.2.2.2.1]? = some (.classLink (cn e.1) e.2.1 (cn e.2.2.1))) && decide (lw_tbl[e.2.2.2.2.1]? = some (.instantiable (cn e.2.2.1) (fN e.2.2.1))) && decide (lw_tbl[e.2.2.2.2.2]? = some (.initialized (cn e.2.2.1))) && decide (e.2.2.1 < 8)
set_option maxRecDepth 100000 in
theorem lkN_chk : lkN.all lkNc = true := by decide +kernel
/-- String constants: class, entry, text; its number is its place -/
def lkT : List (Nat × Nat × String) := [(4, 38, "commons"), (4, 49, "house"), (4, 54, "want"), (4, 84, "pan"), (4, 86, "spoon"), (4, 88, "pipe"), (4, 90, "shoe"), (4, 92, "cap")]
