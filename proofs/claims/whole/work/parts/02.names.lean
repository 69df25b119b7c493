def RX0 : String := "HookTies$Net"
def TX0 : u_T := fun k => match k with
  | 0 => ("HookTies$Net", "inside", "I", false)
  | 1 => ("HookTies$Net", "things", "I", false)
  | _ => ("HookTies$Net", "ends", "[I", true)
def tyX0 : Nat → FieldType := fun k => match k with
  | 0 => .int
  | 1 => .int
  | _ => .array .int
abbrev wsX00 : List Cond := u_ws RX0 TX0 3
theorem nmX0 : ∀ a, a < 3 → ∀ b, b < 3 → a ≠ b → (TX0 a).2.1 ≠ (TX0 b).2.1 := by decide +kernel
theorem tyX0_ok : ∀ k, k < 3 → parseFieldDescriptor (TX0 k).2.2.1 = some (tyX0 k) := by decide +kernel
def RX1 : String := "HookTies$Rack"
def TX1 : u_T := fun k => match k with
  | 0 => ("HookTies$Rack", "missing", "Z", false)
  | 1 => ("HookTies$Rack", "room", "I", false)
  | 2 => ("HookTies$Rack", "size", "I", false)
  | 3 => ("HookTies$Rack", "whats", "[I", true)
  | _ => ("HookTies$Rack", "values", "[I", true)
def tyX1 : Nat → FieldType := fun k => match k with
  | 0 => .boolean
  | 1 => .int
  | 2 => .int
  | 3 => .array .int
  | _ => .array .int
abbrev wsX10 : List Cond := u_ws RX1 TX1 5
theorem nmX1 : ∀ a, a < 5 → ∀ b, b < 5 → a ≠ b → (TX1 a).2.1 ≠ (TX1 b).2.1 := by decide +kernel
theorem tyX1_ok : ∀ k, k < 5 → parseFieldDescriptor (TX1 k).2.2.1 = some (tyX1 k) := by decide +kernel
def RX2 : String := "HookTies$Sights"
def TX2 : u_T := fun k => match k with
  | 0 => ("HookTies$Sights", "years", "[I", true)
  | 1 => ("HookTies$Sights", "home", "[Z", true)
  | 2 => ("HookTies$Sights", "lost", "[I", true)
  | _ => ("HookTies$Sights", "size", "I", false)
def tyX2 : Nat → FieldType := fun k => match k with
  | 0 => .array .int
  | 1 => .array .boolean
  | 2 => .array .int
  | _ => .int
abbrev wsX20 : List Cond := u_ws RX2 TX2 4
theorem nmX2 : ∀ a, a < 4 → ∀ b, b < 4 → a ≠ b → (TX2 a).2.1 ≠ (TX2 b).2.1 := by decide +kernel
theorem tyX2_ok : ∀ k, k < 4 → parseFieldDescriptor (TX2 k).2.2.1 = some (tyX2 k) := by decide +kernel
def RX3 : String := "HookTies$State"
def TX3 : u_T := fun k => match k with
  | 0 => ("HookTies$State", "at", "[I", true)
  | 1 => ("HookTies$State", "worth", "[I", true)
  | 2 => ("HookTies$State", "out", "I", false)
  | _ => ("HookTies$State", "year", "I", false)
def tyX3 : Nat → FieldType := fun k => match k with
  | 0 => .array .int
  | 1 => .array .int
  | 2 => .int
  | _ => .int
abbrev wsX30 : List Cond := u_ws RX3 TX3 4
theorem nmX3 : ∀ a, a < 4 → ∀ b, b < 4 → a ≠ b → (TX3 a).2.1 ≠ (TX3 b).2.1 := by decide +kernel
theorem tyX3_ok : ∀ k, k < 4 → parseFieldDescriptor (TX3 k).2.2.1 = some (tyX3 k) := by decide +kernel
def RX4 : String := "HookTies$Text"
def TX4 : u_T := fun k => match k with
  | 0 => ("HookTies$Text", "letters", "[C", true)
  | 1 => ("HookTies$Text", "length", "I", false)
  | 2 => ("HookTies$Text", "clauses", "I", false)
  | 3 => ("HookTies$Text", "type", "I", false)
  | 4 => ("HookTies$Text", "start", "I", false)
  | _ => ("HookTies$Text", "end", "I", false)
def tyX4 : Nat → FieldType := fun k => match k with
  | 0 => .array .char
  | 1 => .int
  | 2 => .int
  | 3 => .int
  | 4 => .int
  | _ => .int
abbrev wsX40 : List Cond := u_ws RX4 TX4 6
theorem nmX4 : ∀ a, a < 6 → ∀ b, b < 6 → a ≠ b → (TX4 a).2.1 ≠ (TX4 b).2.1 := by decide +kernel
theorem tyX4_ok : ∀ k, k < 6 → parseFieldDescriptor (TX4 k).2.2.1 = some (tyX4 k) := by decide +kernel
def RX5 : String := "HookTies$Told"
def TX5 : u_T := fun k => match k with
  | 0 => ("HookTies$Told", "houses", "I", false)
  | 1 => ("HookTies$Told", "things", "I", false)
  | 2 => ("HookTies$Told", "kind", "[I", true)
  | 3 => ("HookTies$Told", "owner", "[I", true)
  | 4 => ("HookTies$Told", "at", "[I", true)
  | 5 => ("HookTies$Told", "worth", "[I", true)
  | _ => ("HookTies$Told", "want", "[I", true)
def tyX5 : Nat → FieldType := fun k => match k with
  | 0 => .int
  | 1 => .int
  | 2 => .array .int
  | 3 => .array .int
  | 4 => .array .int
  | 5 => .array .int
  | _ => .array .int
abbrev wsX50 : List Cond := u_ws RX5 TX5 7
theorem nmX5 : ∀ a, a < 7 → ∀ b, b < 7 → a ≠ b → (TX5 a).2.1 ≠ (TX5 b).2.1 := by decide +kernel
theorem tyX5_ok : ∀ k, k < 7 → parseFieldDescriptor (TX5 k).2.2.1 = some (tyX5 k) := by decide +kernel
def RX6 : String := "HookTies"
def TX6 : u_T := fun k => match k with
  | 0 => ("HookTies", "told", "LHookTies$Told;", true)
  | 1 => ("HookTies", "draft", "LHookTies$Told;", true)
  | 2 => ("HookTies", "now", "LHookTies$State;", true)
  | 3 => ("HookTies", "ahead", "LHookTies$State;", true)
  | 4 => ("HookTies", "past", "[LHookTies$State;", true)
  | 5 => ("HookTies", "pastCount", "I", false)
  | 6 => ("HookTies", "kept", "[LHookTies$State;", true)
  | 7 => ("HookTies", "isKept", "[Z", true)
  | 8 => ("HookTies", "wants", "[I", true)
  | 9 => ("HookTies", "text", "LHookTies$Text;", true)
  | 10 => ("HookTies", "net", "LHookTies$Net;", true)
  | 11 => ("HookTies", "knitThings", "[I", true)
  | 12 => ("HookTies", "knitHouses", "[I", true)
  | 13 => ("HookTies", "sights", "LHookTies$Sights;", true)
  | _ => ("HookTies", "racks", "[LHookTies$Rack;", true)
def tyX6 : Nat → FieldType := fun k => match k with
  | 0 => .object "HookTies$Told"
  | 1 => .object "HookTies$Told"
  | 2 => .object "HookTies$State"
  | 3 => .object "HookTies$State"
  | 4 => .array (.object "HookTies$State")
  | 5 => .int
  | 6 => .array (.object "HookTies$State")
  | 7 => .array .boolean
  | 8 => .array .int
  | 9 => .object "HookTies$Text"
  | 10 => .object "HookTies$Net"
  | 11 => .array .int
  | 12 => .array .int
  | 13 => .object "HookTies$Sights"
  | _ => .array (.object "HookTies$Rack")
abbrev wsX60 : List Cond := u_ws RX6 TX6 15
theorem nmX6 : ∀ a, a < 15 → ∀ b, b < 15 → a ≠ b → (TX6 a).2.1 ≠ (TX6 b).2.1 := by decide +kernel
theorem tyX6_ok : ∀ k, k < 15 → parseFieldDescriptor (TX6 k).2.2.1 = some (tyX6 k) := by decide +kernel
def RX7 : String := "HookTiesModel"
def TX7 : u_T := fun k => match k with
  | 0 => ("HookTiesModel", "row", "[I", true)
  | 1 => ("HookTiesModel", "undos", "I", false)
  | 2 => ("HookTiesModel", "isKept", "[Z", true)
  | 3 => ("HookTiesModel", "text", "[I", true)
  | 4 => ("HookTiesModel", "length", "I", false)
  | 5 => ("HookTiesModel", "seenMany", "I", false)
  | 6 => ("HookTiesModel", "seenYears", "[I", true)
  | 7 => ("HookTiesModel", "seenHome", "[I", true)
  | 8 => ("HookTiesModel", "seenLess", "[I", true)
  | 9 => ("HookTiesModel", "roomOf", "[I", true)
  | 10 => ("HookTiesModel", "sizes", "[I", true)
  | 11 => ("HookTiesModel", "sorts", "[I", true)
  | 12 => ("HookTiesModel", "values", "[I", true)
  | 13 => ("HookTiesModel", "first", "I", false)
  | 14 => ("HookTiesModel", "behind", "I", false)
  | 15 => ("HookTiesModel", "readHouses", "I", false)
  | 16 => ("HookTiesModel", "readThings", "I", false)
  | 17 => ("HookTiesModel", "clauses", "I", false)
  | 18 => ("HookTiesModel", "doing", "Z", false)
  | 19 => ("HookTiesModel", "numbers", "[I", true)
  | 20 => ("HookTiesModel", "commonsWord", "[I", true)
  | 21 => ("HookTiesModel", "houseWord", "[I", true)
  | 22 => ("HookTiesModel", "panWord", "[I", true)
  | 23 => ("HookTiesModel", "spoonWord", "[I", true)
  | 24 => ("HookTiesModel", "pipeWord", "[I", true)
  | 25 => ("HookTiesModel", "shoeWord", "[I", true)
  | 26 => ("HookTiesModel", "capWord", "[I", true)
  | 27 => ("HookTiesModel", "wantWord", "[I", true)
  | 28 => ("HookTiesModel", "links", "[I", true)
  | _ => ("HookTiesModel", "sent", "[I", true)
def tyX7 : Nat → FieldType := fun k => match k with
  | 0 => .array .int
  | 1 => .int
  | 2 => .array .boolean
  | 3 => .array .int
  | 4 => .int
  | 5 => .int
  | 6 => .array .int
  | 7 => .array .int
  | 8 => .array .int
  | 9 => .array .int
  | 10 => .array .int
  | 11 => .array .int
  | 12 => .array .int
  | 13 => .int
  | 14 => .int
  | 15 => .int
  | 16 => .int
  | 17 => .int
  | 18 => .boolean
  | 19 => .array .int
  | 20 => .array .int
  | 21 => .array .int
  | 22 => .array .int
  | 23 => .array .int
  | 24 => .array .int
  | 25 => .array .int
  | 26 => .array .int
  | 27 => .array .int
  | 28 => .array .int
  | _ => .array .int
abbrev wsX70 : List Cond := u_ws RX7 TX7 30
theorem nmX7 : ∀ a, a < 30 → ∀ b, b < 30 → a ≠ b → (TX7 a).2.1 ≠ (TX7 b).2.1 := by decide +kernel
theorem tyX7_ok : ∀ k, k < 30 → parseFieldDescriptor (TX7 k).2.2.1 = some (tyX7 k) := by decide +kernel
abbrev cls : List vw_C := [(RX0, TX0, 3), (RX1, TX1, 5), (RX2, TX2, 4), (RX3, TX3, 4), (RX4, TX4, 6), (RX5, TX5, 7), (RX6, TX6, 15), (RX7, TX7, 30)]
def cnL : List String := ["HookTies$Net", "HookTies$Rack", "HookTies$Sights", "HookTies$State", "HookTies$Text", "HookTies$Told", "HookTies", "HookTiesModel", "java/lang/Object", "java/util/Arrays", "java/lang/String", "java/lang/StringLatin1", "jdk/internal/util/Preconditions", "java/lang/StringUTF16", "java/lang/Math", "java/lang/Integer", "HookTiesLaw"]
def cn (k : Nat) : String := cnL.getD k ""
def mtI : List Nat := [107, 110, 115, 119, 163, 188, 218, 236, 257, 282, 286, 294, 344, 348, 352, 356, 361, 365, 368, 372, 377, 381, 385, 391, 395, 398, 401, 406, 409, 412, 415, 419, 429, 434, 439, 443, 447, 456, 460, 465, 469, 473, 476, 480, 484, 488, 492, 496, 499, 507, 510, 517, 521, 525, 529, 533, 537, 542, 546, 552, 556, 560, 563, 567, 571, 575, 579, 582, 589, 593, 597, 601, 605, 609, 613, 617, 621, 626, 630, 635, 639, 643, 647, 651, 655, 659, 663, 667, 672, 676, 679, 682, 686, 690, 696, 700, 704, 708, 712, 716, 721, 724, 727, 730, 734, 737, 741, 745, 749, 753, 757, 761, 766, 770, 774, 778, 783, 787, 791, 795, 800, 896, 900, 904, 908, 912, 916, 919, 924, 930, 934, 938, 942, 946, 950, 954, 958, 962, 966, 970, 974, 978, 982, 986, 989, 993, 997, 1001, 1004, 1008, 1013, 1017, 1022, 1026, 1030, 1034, 1038, 1043, 1047, 1051, 1055, 1059, 1063, 1067, 1071, 1076, 1080, 1084, 1088, 1092, 1096, 1100, 1104, 1108, 1114, 1118, 1122, 1126, 1130, 1135, 1140, 1144, 1148, 1153, 1156, 1161, 1165, 1172, 1177, 1181, 1185, 1189, 1193, 1197, 1201]
def mtK : List Nat := [6, 8, 5, 9, 3, 4, 0, 2, 1, 6, 3, 1, 6, 6, 6, 5, 4, 4, 4, 4, 4, 10, 10, 10, 10, 11, 10, 12, 13, 13, 13, 13, 5, 4, 4, 4, 4, 4, 5, 6, 6, 6, 6, 6, 3, 6, 6, 3, 6, 6, 6, 6, 6, 6, 3, 3, 3, 3, 3, 6, 6, 6, 14, 6, 6, 6, 6, 15, 6, 6, 6, 6, 6, 6, 6, 6, 0, 0, 0, 0, 0, 6, 6, 0, 6, 6, 6, 6, 6, 0, 15, 0, 6, 0, 6, 2, 6, 6, 2, 2, 6, 6, 6, 14, 6, 6, 1, 6, 6, 1, 6, 1, 6, 1, 6, 1, 6, 6, 6, 6, 7, 7, 7, 7, 7, 7, 7, 7, 7, 7, 7, 7, 7, 7, 7, 7, 7, 7, 7, 7, 7, 7, 7, 7, 7, 7, 7, 7, 7, 7, 7, 7, 7, 7, 7, 7, 7, 7, 7, 7, 7, 7, 7, 7, 7, 7, 7, 7, 7, 7, 7, 7, 7, 7, 7, 7, 7, 7, 7, 7, 7, 7, 7, 7, 7, 7, 7, 7, 7, 7, 7, 7, 7, 7, 7, 16]
def mtN : List Nat := [0, 0, 0, 2, 0, 0, 0, 0, 0, 0, 1, 0, 1, 0, 0, 1, 1, 0, 1, 1, 1, 0, 0, 1, 0, 2, 2, 3, 2, 2, 1, 2, 0, 1, 1, 2, 0, 2, 4, 0, 2, 1, 2, 2, 1, 2, 1, 2, 2, 2, 2, 2, 1, 0, 1, 2, 1, 1, 1, 2, 1, 2, 2, 0, 0, 1, 1, 1, 0, 1, 1, 3, 1, 1, 0, 1, 2, 2, 1, 2, 2, 0, 2, 2, 1, 0, 3, 3, 2, 0, 1, 4, 2, 2, 3, 3, 0, 0, 0, 1, 0, 3, 4, 2, 2, 1, 1, 4, 3, 3, 3, 1, 3, 2, 2, 1, 1, 1, 0, 0, 0, 1, 3, 0, 0, 1, 0, 1, 1, 0, 0, 1, 1, 3, 0, 0, 0, 0, 3, 2, 1, 1, 1, 2, 2, 2, 1, 2, 2, 2, 2, 1, 0, 1, 2, 2, 2, 0, 1, 0, 1, 0, 1, 1, 3, 1, 1, 1, 2, 2, 1, 0, 2, 1, 0, 2, 2, 0, 2, 3, 0, 0, 0, 2, 1, 4, 3, 3, 3, 2, 1, 1, 0, 0, 0, 1]
/-- 0 static, 1 of an object, 2 a constructor -/
def mtS : List Nat := [2, 2, 2, 0, 2, 2, 2, 2, 2, 1, 1, 1, 1, 1, 1, 1, 1, 1, 0, 1, 1, 1, 1, 1, 1, 0, 0, 0, 0, 0, 0, 0, 1, 1, 1, 1, 1, 1, 1, 1, 1, 1, 0, 1, 1, 1, 1, 1, 0, 1, 0, 1, 1, 1, 1, 1, 1, 1, 1, 1, 1, 1, 0, 1, 1, 1, 1, 0, 1, 1, 1, 1, 1, 1, 1, 1, 1, 1, 1, 1, 1, 1, 1, 1, 1, 1, 1, 1, 1, 1, 0, 0, 0, 1, 1, 1, 1, 1, 1, 1, 1, 0, 0, 0, 1, 0, 1, 1, 1, 1, 1, 1, 1, 1, 1, 1, 1, 1, 1, 1, 2, 1, 0, 1, 1, 1, 1, 0, 0, 1, 1, 1, 1, 1, 1, 1, 1, 1, 1, 1, 1, 1, 1, 1, 0, 1, 1, 1, 0, 1, 1, 1, 1, 1, 1, 1, 1, 1, 1, 1, 0, 1, 1, 1, 1, 1, 1, 1, 1, 1, 1, 1, 1, 1, 1, 1, 1, 1, 1, 1, 1, 1, 1, 1, 0, 1, 1, 1, 1, 1, 1, 1, 1, 1, 1, 0]
def mtW : List (Nat × Nat × Nat) := [(87, 106, 99999), (99999, 109, 99999), (88, 114, 99999), (89, 118, 99999), (90, 162, 99999), (91, 187, 99999), (92, 217, 99999), (93, 235, 99999), (94, 256, 99999), (87, 281, 0), (90, 285, 1), (94, 293, 2), (87, 342, 343), (87, 346, 347), (87, 350, 351), (88, 355, 3), (91, 360, 4), (91, 364, 5), (91, 367, 99999), (91, 371, 6), (91, 376, 7), (97, 379, 380), (97, 383, 384), (97, 389, 390), (97, 393, 394), (98, 397, 99999), (97, 400, 99999), (99, 405, 99999), (100, 408, 99999), (100, 411, 99999), (100, 414, 99999), (100, 418, 99999), (88, 428, 8), (91, 433, 9), (91, 438, 10), (91, 442, 11), (91, 446, 12), (91, 455, 13), (88, 459, 14), (87, 463, 464), (87, 467, 468), (87, 472, 15), (87, 475, 99999), (87, 479, 16), (90, 483, 17), (87, 486, 487), (87, 491, 18), (90, 495, 19), (87, 498, 99999), (87, 505, 506), (87, 509, 99999), (87, 515, 516), (87, 519, 520), (87, 524, 20), (90, 528, 21), (90, 532, 22), (90, 536, 23), (90, 541, 24), (90, 545, 25), (87, 550, 551), (87, 555, 26), (87, 558, 559), (101, 562, 99999), (87, 565, 566), (87, 570, 27), (87, 574, 28), (87, 578, 29), (102, 581, 99999), (87, 587, 588), (87, 591, 592), (87, 595, 596), (87, 599, 600), (87, 604, 30), (87, 607, 608), (87, 611, 612), (87, 615, 616), (92, 620, 31), (92, 625, 32), (92, 629, 33), (92, 634, 34), (92, 638, 35), (87, 641, 642), (87, 645, 646), (92, 650, 36), (87, 653, 654), (87, 658, 37), (87, 662, 38), (87, 666, 39), (87, 670, 671), (92, 675, 40), (102, 678, 99999), (92, 681, 99999), (87, 685, 99999), (92, 689, 41), (87, 694, 695), (93, 699, 42), (87, 702, 703), (87, 706, 707), (93, 711, 43), (93, 715, 44), (87, 719, 720), (87, 723, 99999), (87, 726, 99999), (101, 729, 99999), (87, 732, 733), (87, 736, 99999), (94, 740, 45), (87, 743, 744), (87, 748, 46), (94, 752, 47), (87, 755, 756), (94, 760, 48), (87, 764, 765), (94, 769, 49), (87, 772, 773), (94, 777, 50), (87, 781, 782), (87, 785, 786), (87, 790, 51), (87, 794, 52), (96, 799, 99999), (96, 894, 895), (96, 899, 99999), (96, 902, 903), (96, 906, 907), (96, 911, 53), (96, 915, 54), (96, 918, 99999), (96, 923, 99999), (96, 929, 55), (96, 933, 56), (96, 937, 57), (96, 941, 58), (96, 945, 59), (96, 949, 60), (96, 953, 61), (96, 957, 62), (96, 960, 961), (96, 965, 63), (96, 968, 969), (96, 973, 64), (96, 977, 65), (96, 981, 66), (96, 985, 67), (96, 988, 99999), (96, 991, 992), (96, 996, 68), (96, 1000, 69), (96, 1003, 99999), (96, 1006, 1007), (96, 1011, 1012), (96, 1015, 1016), (96, 1021, 70), (96, 1025, 71), (96, 1028, 1029), (96, 1033, 72), (96, 1036, 1037), (96, 1041, 1042), (96, 1046, 73), (96, 1049, 1050), (96, 1054, 99999), (96, 1057, 1058), (96, 1061, 1062), (96, 1065, 1066), (96, 1069, 1070), (96, 1075, 74), (96, 1078, 1079), (96, 1082, 1083), (96, 1087, 75), (96, 1091, 76), (96, 1095, 77), (96, 1098, 1099), (96, 1102, 1103), (96, 1106, 1107), (96, 1113, 78), (96, 1117, 79), (96, 1121, 80), (96, 1125, 81), (96, 1128, 1129), (96, 1133, 1134), (96, 1138, 1139), (96, 1142, 1143), (96, 1146, 1147), (96, 1151, 1152), (96, 1155, 99999), (96, 1159, 1160), (96, 1164, 82), (96, 1170, 1171), (96, 1175, 1176), (96, 1179, 1180), (96, 1183, 1184), (96, 1187, 1188), (96, 1192, 83), (96, 1196, 84), (96, 1200, 85)]
abbrev aMI : Type := MethodName × ByteArray × Nat × Option FieldType
def mLaw : Nat := 195
def mtE (M : Nat) : Option aMI := if M = 195 then some (x, code, maxLocals, ret) else match lw_tbl[(mtI.getD M 99999)]? with
  | some (.code y b n r) => some (y, b, n, r)
  | _ => none
def mY (M : Nat) : MethodName := match mtE M with
  | some e => e.1
  | none => ⟨"", "", ""⟩
def mC (M : Nat) : ByteArray := match mtE M with
  | some e => e.2.1
  | none => ⟨#[]⟩
def mL (M : Nat) : Nat := match mtE M with
  | some e => e.2.2.1
  | none => 0
def mR (M : Nat) : Option FieldType := match mtE M with
  | some e => e.2.2.2
  | none => none
def mK (M : Nat) : Nat := mtK.getD M 99
def mS (M : Nat) : Nat := mtS.getD M 99
def mP (M : Nat) : Nat := mtN.getD M 99
abbrev m_Ht_init : Nat := 0
abbrev m_Object_init : Nat := 1
abbrev m_Told_init : Nat := 2
abbrev m_Arrays_fill : Nat := 3
abbrev m_State_init : Nat := 4
abbrev m_Text_init : Nat := 5
abbrev m_Net_init : Nat := 6
abbrev m_Sights_init : Nat := 7
abbrev m_Rack_init : Nat := 8
abbrev m_Ht_beginAsTold : Nat := 9
abbrev m_State_beginAs : Nat := 10
abbrev m_Rack_takeAway : Nat := 11
abbrev m_Ht_write : Nat := 12
abbrev m_Ht_erase : Nat := 13
abbrev m_Ht_fault : Nat := 14
abbrev m_Told_copyFrom : Nat := 15
abbrev m_Text_readInto : Nat := 16
abbrev m_Text_step : Nat := 17
abbrev m_Text_typeOf : Nat := 18
abbrev m_Text_readClause : Nat := 19
abbrev m_Text_isWord : Nat := 20
abbrev m_String_length : Nat := 21
abbrev m_String_coder : Nat := 22
abbrev m_String_charAt : Nat := 23
abbrev m_String_isLatin1 : Nat := 24
abbrev m_StringLatin1_charAt : Nat := 25
abbrev m_String_checkIndex : Nat := 26
abbrev m_Preconditions_checkIndex : Nat := 27
abbrev m_StringUTF16_charAt : Nat := 28
abbrev m_StringUTF16_checkIndex : Nat := 29
abbrev m_StringUTF16_length : Nat := 30
abbrev m_StringUTF16_getChar : Nat := 31
abbrev m_Told_clearAll : Nat := 32
abbrev m_Text_readHouse : Nat := 33
abbrev m_Text_readWant : Nat := 34
abbrev m_Text_readNumber : Nat := 35
abbrev m_Text_kindHere : Nat := 36
abbrev m_Text_readThing : Nat := 37
abbrev m_Told_addThing : Nat := 38
abbrev m_Ht_commons : Nat := 39
abbrev m_Ht_house : Nat := 40
abbrev m_Ht_isHouse : Nat := 41
abbrev m_Ht_bitOf : Nat := 42
abbrev m_Ht_thingsWhere : Nat := 43
abbrev m_State_tied : Nat := 44
abbrev m_Ht_thing : Nat := 45
abbrev m_Ht_isThing : Nat := 46
abbrev m_State_wearOf : Nat := 47
abbrev m_Ht_wearBy : Nat := 48
abbrev m_Ht_as : Nat := 49
abbrev m_Ht_isUnder : Nat := 50
abbrev m_Ht_want : Nat := 51
abbrev m_Ht_year : Nat := 52
abbrev m_Ht_remember : Nat := 53
abbrev m_State_copyFrom : Nat := 54
abbrev m_State_passYears : Nat := 55
abbrev m_State_wearAll : Nat := 56
abbrev m_State_leaveUntied : Nat := 57
abbrev m_State_inside : Nat := 58
abbrev m_Ht_send : Nat := 59
abbrev m_Ht_wouldUntie : Nat := 60
abbrev m_Ht_patch : Nat := 61
abbrev m_Math_min : Nat := 62
abbrev m_Ht_trade : Nat := 63
abbrev m_Ht_housesOnRings : Nat := 64
abbrev m_Ht_isOnRing : Nat := 65
abbrev m_Ht_arrowOf : Nat := 66
abbrev m_Integer_bitCount : Nat := 67
abbrev m_Ht_undo : Nat := 68
abbrev m_Ht_keep : Nat := 69
abbrev m_Ht_back : Nat := 70
abbrev m_Ht_behind : Nat := 71
abbrev m_Ht_foretell : Nat := 72
abbrev m_Ht_leaves : Nat := 73
abbrev m_Ht_rings : Nat := 74
abbrev m_Ht_pieces : Nat := 75
abbrev m_Net_draw : Nat := 76
abbrev m_Net_endsOf : Nat := 77
abbrev m_Net_parts : Nat := 78
abbrev m_Net_reachOf : Nat := 79
abbrev m_Net_widened : Nat := 80
abbrev m_Ht_hangs : Nat := 81
abbrev m_Ht_way : Nat := 82
abbrev m_Net_stepsBetween : Nat := 83
abbrev m_Ht_knit : Nat := 84
abbrev m_Ht_fewestToKnit : Nat := 85
abbrev m_Ht_knitsBy : Nat := 86
abbrev m_Ht_knitsBySending : Nat := 87
abbrev m_Ht_whole : Nat := 88
abbrev m_Net_links : Nat := 89
abbrev m_Integer_lowestOneBit : Nat := 90
abbrev m_Net_weightOfAllReached : Nat := 91
abbrev m_Ht_power : Nat := 92
abbrev m_Net_openLinkOutOf : Nat := 93
abbrev m_Ht_seen : Nat := 94
abbrev m_Sights_note : Nat := 95
abbrev m_Ht_forget : Nat := 96
abbrev m_Ht_kinds : Nat := 97
abbrev m_Sights_fittingKinds : Nat := 98
abbrev m_Sights_fits : Nat := 99
abbrev m_Ht_ask : Nat := 100
abbrev m_Ht_mostAlike : Nat := 101
abbrev m_Ht_alikeWith : Nat := 102
abbrev m_Math_max : Nat := 103
abbrev m_Ht_hooks : Nat := 104
abbrev m_Ht_isRack : Nat := 105
abbrev m_Rack_renew : Nat := 106
abbrev m_Ht_hang : Nat := 107
abbrev m_Ht_refusedAsSuch : Nat := 108
abbrev m_Rack_putAt : Nat := 109
abbrev m_Ht_unhang : Nat := 110
abbrev m_Rack_takeFrom : Nat := 111
abbrev m_Ht_find : Nat := 112
abbrev m_Rack_firstPlaceOf : Nat := 113
abbrev m_Ht_join : Nat := 114
abbrev m_Rack_putAllBehind : Nat := 115
abbrev m_Ht_drop : Nat := 116
abbrev m_Ht_count : Nat := 117
abbrev m_Ht_worthOfAll : Nat := 118
abbrev m_Ht_hungOnAll : Nat := 119
abbrev m_Mod_init : Nat := 120
abbrev m_Mod_write : Nat := 121
abbrev m_Mod_in : Nat := 122
abbrev m_Mod_erase : Nat := 123
abbrev m_Mod_fault : Nat := 124
abbrev m_Mod_reads : Nat := 125
abbrev m_Mod_nextToken : Nat := 126
abbrev m_Mod_isLetter : Nat := 127
abbrev m_Mod_isDigit : Nat := 128
abbrev m_Mod_readsClause : Nat := 129
abbrev m_Mod_kindHere : Nat := 130
abbrev m_Mod_isWord : Nat := 131
abbrev m_Mod_readsThing : Nat := 132
abbrev m_Mod_number : Nat := 133
abbrev m_Mod_readsCommons : Nat := 134
abbrev m_Mod_readsHouse : Nat := 135
abbrev m_Mod_readsWant : Nat := 136
abbrev m_Mod_commons : Nat := 137
abbrev m_Mod_copyRow : Nat := 138
abbrev m_Mod_house : Nat := 139
abbrev m_Mod_isHouse : Nat := 140
abbrev m_Mod_thingsAt : Nat := 141
abbrev m_Mod_thingsOf : Nat := 142
abbrev m_Mod_isTied : Nat := 143
abbrev m_Mod_has : Nat := 144
abbrev m_Mod_thing : Nat := 145
abbrev m_Mod_isThing : Nat := 146
abbrev m_Mod_wears : Nat := 147
abbrev m_Mod_wearsBy : Nat := 148
abbrev m_Mod_as : Nat := 149
abbrev m_Mod_want : Nat := 150
abbrev m_Mod_year : Nat := 151
abbrev m_Mod_keepPast : Nat := 152
abbrev m_Mod_passes : Nat := 153
abbrev m_Mod_send : Nat := 154
abbrev m_Mod_isLoosed : Nat := 155
abbrev m_Mod_patch : Nat := 156
abbrev m_Mod_rings : Nat := 157
abbrev m_Mod_arrow : Nat := 158
abbrev m_Mod_trade : Nat := 159
abbrev m_Mod_bits : Nat := 160
abbrev m_Mod_undo : Nat := 161
abbrev m_Mod_keep : Nat := 162
abbrev m_Mod_back : Nat := 163
abbrev m_Mod_behind : Nat := 164
abbrev m_Mod_layTried : Nat := 165
abbrev m_Mod_leaves : Nat := 166
abbrev m_Mod_pieces : Nat := 167
abbrev m_Mod_piecesIn : Nat := 168
abbrev m_Mod_layLinks : Nat := 169
abbrev m_Mod_partOf : Nat := 170
abbrev m_Mod_hangs : Nat := 171
abbrev m_Mod_way : Nat := 172
abbrev m_Mod_knit : Nat := 173
abbrev m_Mod_knitsByOne : Nat := 174
abbrev m_Mod_sendsOne : Nat := 175
abbrev m_Mod_isSendable : Nat := 176
abbrev m_Mod_knitsByTwo : Nat := 177
abbrev m_Mod_whole : Nat := 178
abbrev m_Mod_seen : Nat := 179
abbrev m_Mod_forget : Nat := 180
abbrev m_Mod_kinds : Nat := 181
abbrev m_Mod_ask : Nat := 182
abbrev m_Mod_hooks : Nat := 183
abbrev m_Mod_isHooks : Nat := 184
abbrev m_Mod_hang : Nat := 185
abbrev m_Mod_noSuch : Nat := 186
abbrev m_Mod_unhang : Nat := 187
abbrev m_Mod_find : Nat := 188
abbrev m_Mod_join : Nat := 189
abbrev m_Mod_drop : Nat := 190
abbrev m_Mod_count : Nat := 191
abbrev m_Mod_tiedOnes : Nat := 192
abbrev m_Mod_allWorth : Nat := 193
abbrev m_Mod_allHanging : Nat := 194
def mtChk (M : Nat) : Bool := decide (cn (mK M) = (mY M).cls) && decide ((parseMethodDescriptor (mY M).desc).map (fun d => d.parameters.length) = some (mP M)) && (plainName (mY M).cls || decide (M = m_Object_init ∨ M = m_Math_max ∨ M = m_Math_min)) && decide ((mY M).cls ≠ "java/lang/invoke/MethodHandle") && decide ((mY M).cls ≠ "java/lang/invoke/VarHandle")
  && (match mS M with
     | 0 => decide (lw_tbl[(mtW.getD M (99999, 99999, 99999)).1]? = some (.initialized (mY M).cls)) && decide (lw_tbl[(mtW.getD M (99999, 99999, 99999)).2.1]? = some (.static (mY M)))
     | 1 => decide (lw_tbl[(mtW.getD M (99999, 99999, 99999)).1]? = some (.initialized (mY M).cls)) && decide (lw_tbl[(mtW.getD M (99999, 99999, 99999)).2.1]? = some (.instanceMethod (mY M))) && decide (lw_tbl[(mtW.getD M (99999, 99999, 99999)).2.2]? = some (.selects (mY M).cls (mY M) (mY M)))
     | 2 => (decide (M = m_Object_init) || decide (lw_tbl[(mtW.getD M (99999, 99999, 99999)).1]? = some (.initialized (mY M).cls))) && decide (lw_tbl[(mtW.getD M (99999, 99999, 99999)).2.1]? = some (.instanceMethod (mY M))) && decide ((mY M).name = "<init>")
     | _ => false)
set_option maxRecDepth 100000 in
theorem mt_chk : (List.range 195).all mtChk = true := by decide +kernel
/-- links of methods: class, entry, kind (3 Object(), 4 arraycopy), callee, of a nest mate, place of its word -/
def lkM : List (Nat × Nat × Nat × Nat × Bool × Nat) := [(16, 9, 2, 0, false, 105), (6, 1, 3, 1, false, 108), (6, 9, 2, 2, true, 113), (5, 3, 3, 1, false, 116), (5, 34, 0, 3, false, 117), (6, 21, 2, 4, true, 161), (3, 3, 3, 1, false, 164), (6, 50, 2, 5, true, 186), (4, 3, 3, 1, false, 189), (6, 57, 2, 6, true, 216), (0, 3, 3, 1, false, 219), (6, 70, 2, 7, true, 234), (2, 3, 3, 1, false, 237), (6, 81, 2, 8, true, 255), (1, 3, 3, 1, false, 258), (6, 82, 1, 9, false, 279), (6, 286, 1, 10, true, 283), (3, 25, 4, 0, false, 287), (6, 292, 4, 0, false, 290), (6, 265, 1, 11, true, 291), (16, 13, 1, 12, false, 341), (16, 18, 1, 13, false, 345), (16, 23, 1, 14, false, 349), (6, 92, 1, 15, true, 353), (5, 40, 4, 0, false, 357), (6, 96, 1, 16, true, 358), (4, 31, 1, 17, false, 362), (4, 102, 0, 18, false, 366), (4, 34, 1, 19, false, 369), (4, 40, 1, 20, false, 374), (4, 94, 1, 21, false, 378), (10, 335, 1, 22, false, 382), (4, 98, 1, 23, false, 388), (10, 492, 1, 24, false, 392), (10, 495, 0, 25, false, 396), (11, 9, 0, 26, false, 399), (10, 1059, 0, 27, false, 404), (10, 498, 0, 28, false, 407), (13, 67, 0, 29, false, 410), (13, 48, 0, 30, false, 413), (13, 414, 0, 26, false, 416), (13, 71, 0, 31, false, 417), (4, 44, 1, 32, true, 426), (4, 51, 1, 33, false, 431), (4, 56, 1, 34, false, 436), (4, 70, 1, 35, false, 440), (4, 59, 1, 36, false, 444), (4, 63, 1, 37, false, 453), (4, 80, 1, 38, true, 457), (16, 27, 1, 39, false, 462), (16, 31, 1, 40, false, 466), (6, 103, 1, 41, false, 470), (6, 110, 0, 42, false, 474), (6, 117, 1, 43, false, 477), (6, 124, 1, 44, true, 481), (16, 36, 1, 45, false, 485), (6, 127, 1, 46, false, 489), (6, 136, 1, 47, true, 493), (3, 47, 0, 48, true, 497), (16, 40, 1, 49, false, 504), (6, 140, 0, 50, false, 508), (6, 144, 0, 48, false, 513), (16, 44, 1, 51, false, 514), (16, 48, 1, 52, false, 518), (6, 151, 1, 53, false, 522), (6, 179, 1, 54, true, 526), (6, 154, 1, 55, true, 530), (3, 51, 1, 56, false, 534), (3, 58, 1, 47, false, 538), (3, 55, 1, 57, false, 539), (3, 62, 1, 58, false, 543), (3, 66, 1, 44, false, 547), (3, 69, 0, 42, true, 548), (16, 52, 1, 59, false, 549), (6, 158, 1, 60, false, 553), (16, 56, 1, 61, false, 557), (6, 161, 6, 62, false, 561), (16, 60, 1, 63, false, 564), (6, 166, 1, 64, false, 568), (6, 301, 1, 65, false, 572), (6, 298, 1, 66, false, 576), (6, 173, 0, 67, false, 580), (16, 64, 1, 68, false, 586), (16, 68, 1, 69, false, 590), (16, 72, 1, 70, false, 594), (16, 76, 1, 71, false, 598), (6, 182, 1, 72, false, 602), (16, 81, 1, 73, false, 606), (16, 85, 1, 74, false, 610), (16, 89, 1, 75, false, 614), (6, 186, 1, 76, true, 618), (0, 22, 1, 58, true, 622), (0, 36, 1, 77, false, 623), (6, 193, 1, 78, true, 627), (0, 43, 0, 42, true, 631), (0, 46, 1, 79, false, 632), (0, 40, 1, 80, false, 636), (16, 93, 1, 81, false, 640), (16, 97, 1, 82, false, 644), (6, 196, 1, 83, true, 648), (16, 101, 1, 84, false, 652), (6, 199, 1, 85, false, 656), (6, 304, 1, 86, false, 660), (6, 308, 1, 87, false, 664), (6, 314, 1, 77, true, 668), (16, 105, 1, 88, false, 669), (6, 202, 1, 89, true, 673), (6, 205, 0, 90, false, 677), (6, 208, 0, 91, true, 680), (0, 49, 0, 67, false, 683), (0, 55, 0, 92, true, 684), (0, 58, 1, 93, false, 687), (0, 61, 0, 91, false, 691), (6, 212, 0, 92, false, 692), (16, 109, 1, 94, false, 693), (6, 218, 1, 95, true, 697), (16, 113, 1, 96, false, 701), (16, 117, 1, 97, false, 705), (6, 222, 1, 98, true, 709), (2, 26, 1, 99, false, 713), (2, 30, 0, 48, true, 717), (16, 121, 1, 100, false, 718), (6, 225, 0, 101, false, 722), (6, 317, 0, 102, false, 725), (6, 321, 5, 103, false, 728), (16, 125, 1, 104, false, 731), (6, 229, 0, 105, false, 735), (6, 232, 1, 106, true, 738), (16, 129, 1, 107, false, 742), (6, 235, 1, 108, false, 746), (6, 247, 1, 109, true, 750), (16, 134, 1, 110, false, 754), (6, 254, 1, 111, true, 758), (16, 138, 1, 112, false, 763), (6, 258, 1, 113, true, 767), (16, 142, 1, 114, false, 771), (6, 261, 1, 115, true, 775), (1, 29, 1, 109, false, 779), (16, 146, 1, 116, false, 780), (16, 150, 1, 117, false, 784), (6, 271, 1, 118, false, 788), (6, 274, 1, 119, false, 792), (16, 12, 2, 120, false, 798), (7, 1, 3, 1, false, 801), (16, 17, 1, 121, false, 893), (7, 76, 0, 122, false, 898), (16, 22, 1, 123, false, 901), (16, 26, 1, 124, false, 905), (7, 149, 1, 125, false, 909), (7, 105, 1, 126, false, 913), (7, 98, 0, 127, false, 917), (7, 102, 0, 128, false, 922), (7, 146, 1, 129, false, 927), (7, 126, 1, 130, false, 931), (7, 108, 1, 131, false, 935), (7, 130, 1, 132, false, 939), (7, 118, 1, 133, false, 943), (7, 133, 1, 134, false, 947), (7, 137, 1, 135, false, 951), (7, 140, 1, 136, false, 955), (16, 30, 1, 137, false, 959), (7, 153, 1, 138, false, 963), (16, 35, 1, 139, false, 967), (7, 178, 1, 140, false, 971), (7, 181, 1, 141, false, 975), (7, 185, 1, 142, false, 979), (7, 175, 1, 143, false, 983), (7, 167, 0, 144, false, 987), (16, 39, 1, 145, false, 990), (7, 188, 1, 146, false, 994), (7, 171, 1, 147, false, 998), (7, 163, 0, 148, false, 1002), (16, 43, 1, 149, false, 1005), (16, 47, 1, 150, false, 1010), (16, 51, 1, 151, false, 1014), (7, 195, 1, 152, false, 1019), (7, 198, 1, 153, false, 1023), (16, 55, 1, 154, false, 1027), (7, 202, 1, 155, false, 1031), (16, 59, 1, 156, false, 1035), (16, 88, 1, 157, false, 1040), (7, 207, 1, 158, false, 1044), (16, 63, 1, 159, false, 1048), (7, 210, 1, 157, false, 1052), (7, 213, 0, 160, false, 1053), (16, 67, 1, 161, false, 1056), (16, 71, 1, 162, false, 1060), (16, 75, 1, 163, false, 1064), (16, 80, 1, 164, false, 1068), (7, 218, 1, 165, false, 1073), (16, 84, 1, 166, false, 1077), (16, 92, 1, 167, false, 1081), (7, 228, 1, 168, false, 1085), (7, 221, 1, 169, false, 1089), (7, 225, 1, 170, false, 1093), (16, 96, 1, 171, false, 1097), (16, 100, 1, 172, false, 1101), (16, 104, 1, 173, false, 1105), (7, 241, 1, 174, false, 1111), (7, 234, 1, 175, false, 1115), (7, 231, 1, 176, false, 1119), (7, 244, 1, 177, false, 1123), (16, 108, 1, 178, false, 1127), (16, 112, 1, 179, false, 1132), (16, 116, 1, 180, false, 1137), (16, 120, 1, 181, false, 1141), (16, 124, 1, 182, false, 1145), (7, 251, 1, 181, false, 1149), (16, 128, 1, 183, false, 1150), (7, 256, 0, 184, false, 1154), (16, 133, 1, 185, false, 1158), (7, 265, 1, 186, false, 1162), (16, 137, 1, 187, false, 1169), (16, 141, 1, 188, false, 1174), (16, 145, 1, 189, false, 1178), (16, 149, 1, 190, false, 1182), (16, 153, 1, 191, false, 1186), (7, 270, 1, 192, false, 1190), (7, 273, 1, 193, false, 1194), (7, 276, 1, 194, false, 1198)]
def lkMc (e : Nat × Nat × Nat × Nat × Bool × Nat) : Bool := (if e.2.2.2.2.1 then decide (lw_tbl[e.2.2.2.2.2]? = some (.methodLinkNest (cn e.1) e.2.1 (mY e.2.2.2.1) "HookTies")) else decide (lw_tbl[e.2.2.2.2.2]? = some (.methodLink (cn e.1) e.2.1 (if e.2.2.1 = 4 then arraycopyName else mY e.2.2.2.1)))) && (decide (e.2.2.1 = 4 ∧ e.2.2.2.2.1 = false) || decide (e.2.2.1 = 3 ∧ e.2.2.2.1 = m_Object_init ∧ e.2.2.2.2.1 = false) || decide (e.2.2.1 = 5 ∧ e.2.2.2.1 = m_Math_max ∧ e.2.2.2.2.1 = false) || decide (e.2.2.1 = 6 ∧ e.2.2.2.1 = m_Math_min ∧ e.2.2.2.2.1 = false) || decide (e.2.2.1 = mS e.2.2.2.1 ∧ e.2.2.1 < 3 ∧ e.2.2.2.1 < 195 ∧ e.2.2.2.1 ≠ m_Object_init ∧ e.2.2.2.1 ≠ m_Math_max ∧ e.2.2.2.1 ≠ m_Math_min))
set_option maxRecDepth 100000 in
theorem lkM_chk : lkM.all lkMc = true := by decide +kernel
/-- links of fields: class, entry, class of the field, its number, of a nest mate, place of its word -/
def lkF : List (Nat × Nat × Nat × Nat × Bool × Nat) := [(5, 9, 5, 0, false, 120), (4, 67, 5, 0, true, 121), (3, 35, 5, 0, true, 122), (6, 170, 5, 0, true, 123), (5, 15, 5, 1, false, 124), (0, 27, 5, 1, true, 125), (3, 38, 5, 1, true, 126), (4, 74, 5, 1, true, 127), (6, 268, 5, 1, true, 128), (5, 18, 5, 2, false, 129), (3, 44, 5, 2, true, 130), (6, 130, 5, 2, true, 131), (5, 22, 5, 3, false, 132), (0, 33, 5, 3, true, 133), (3, 41, 5, 3, true, 134), (6, 121, 5, 3, true, 135), (5, 25, 5, 4, false, 136), (3, 31, 5, 4, true, 137), (5, 28, 5, 5, false, 138), (3, 34, 5, 5, true, 139), (5, 31, 5, 6, false, 140), (4, 77, 5, 6, true, 141), (6, 289, 5, 6, true, 142), (3, 9, 3, 0, false, 165), (0, 30, 3, 0, true, 166), (6, 114, 3, 0, true, 167), (3, 15, 3, 1, false, 168), (6, 133, 3, 1, true, 169), (3, 18, 3, 2, false, 170), (6, 107, 3, 2, true, 171), (3, 22, 3, 3, false, 172), (6, 148, 3, 3, true, 173), (4, 9, 4, 0, false, 190), (6, 88, 4, 0, true, 191), (4, 15, 4, 1, false, 192), (6, 85, 4, 1, true, 193), (4, 19, 4, 2, false, 194), (6, 100, 4, 2, true, 195), (4, 22, 4, 3, false, 196), (4, 25, 4, 4, false, 197), (4, 28, 4, 5, false, 198), (0, 9, 0, 0, false, 220), (6, 190, 0, 0, true, 221), (0, 15, 0, 1, false, 222), (0, 18, 0, 2, false, 223), (6, 311, 0, 2, true, 224), (2, 9, 2, 0, false, 238), (2, 15, 2, 1, false, 239), (2, 19, 2, 2, false, 240), (2, 22, 2, 3, false, 241), (6, 215, 2, 3, true, 242), (1, 9, 1, 0, false, 259), (6, 239, 1, 0, true, 260), (1, 15, 1, 1, false, 261), (6, 244, 1, 1, true, 262), (1, 19, 1, 2, false, 263), (6, 243, 1, 2, true, 264), (1, 22, 1, 3, false, 265), (6, 251, 1, 3, true, 266), (1, 26, 1, 4, false, 267), (6, 10, 6, 0, false, 295), (6, 16, 6, 1, false, 296), (6, 22, 6, 2, false, 297), (6, 26, 6, 3, false, 298), (6, 29, 6, 4, false, 299), (6, 33, 6, 5, false, 300), (6, 37, 6, 6, false, 301), (6, 40, 6, 7, false, 302), (6, 44, 6, 8, false, 303), (6, 51, 6, 9, false, 304), (6, 58, 6, 10, false, 305), (6, 62, 6, 11, false, 306), (6, 65, 6, 12, false, 307), (6, 71, 6, 13, false, 308), (6, 77, 6, 14, false, 309), (7, 7, 7, 0, false, 802), (7, 157, 7, 1, false, 803), (7, 13, 7, 2, false, 804), (7, 17, 7, 3, false, 805), (7, 80, 7, 4, false, 806), (7, 160, 7, 5, false, 807), (7, 20, 7, 6, false, 808), (7, 23, 7, 7, false, 809), (7, 26, 7, 8, false, 810), (7, 29, 7, 9, false, 811), (7, 32, 7, 10, false, 812), (7, 35, 7, 11, false, 813), (7, 38, 7, 12, false, 814), (7, 95, 7, 13, false, 815), (7, 92, 7, 14, false, 816), (7, 115, 7, 15, false, 817), (7, 112, 7, 16, false, 818), (7, 143, 7, 17, false, 819), (7, 122, 7, 18, false, 820), (7, 41, 7, 19, false, 821), (7, 44, 7, 20, false, 822), (7, 47, 7, 21, false, 823), (7, 50, 7, 22, false, 824), (7, 53, 7, 23, false, 825), (7, 56, 7, 24, false, 826), (7, 59, 7, 25, false, 827), (7, 62, 7, 26, false, 828), (7, 65, 7, 27, false, 829), (7, 68, 7, 28, false, 830), (7, 71, 7, 29, false, 831)]
def fT (ci : Nat) : u_T := match cls[ci]? with
  | some r => r.2.1
  | none => fun _ => ("", "", "", false)
def fN (ci : Nat) : Nat := match cls[ci]? with
  | some r => r.2.2
  | none => 0
def lkFc (e : Nat × Nat × Nat × Nat × Bool × Nat) : Bool := (if e.2.2.2.2.1 then decide (lw_tbl[e.2.2.2.2.2]? = some (.fieldLinkNest (cn e.1) e.2.1 (fT e.2.2.1 e.2.2.2.1).1 (fT e.2.2.1 e.2.2.2.1).2.1 (fT e.2.2.1 e.2.2.2.1).2.2.1 "HookTies")) else decide (lw_tbl[e.2.2.2.2.2]? = some (.fieldLink (cn e.1) e.2.1 (fT e.2.2.1 e.2.2.2.1).1 (fT e.2.2.1 e.2.2.2.1).2.1 (fT e.2.2.1 e.2.2.2.1).2.2.1))) && decide (e.2.2.2.1 < fN e.2.2.1)
set_option maxRecDepth 100000 in
theorem lkF_chk : lkF.all lkFc = true := by decide +kernel
def lkS : List (Nat × Nat × Nat × Nat) := [(10, 9, 0, 1202), (10, 15, 1, 1203)]
def sfN (f : Nat) : String × String := if f = 0 then ("value", "[B") else ("coder", "B")
def lkSc (e : Nat × Nat × Nat × Nat) : Bool := decide (lw_tbl[e.2.2.2]? = some (.fieldLink (cn e.1) e.2.1 "java/lang/String" (sfN e.2.2.1).1 (sfN e.2.2.1).2)) && decide (e.2.2.1 < 2)
set_option maxRecDepth 100000 in
theorem lkS_chk : lkS.all lkSc = true := by decide +kernel
/-- statics: class, name, descriptor, what it holds -/
def sgT : List (String × String × String × Value) := [("java/lang/String", "COMPACT_STRINGS", "Z", .int 1), ("jdk/internal/util/Preconditions", "SIOOBE_FORMATTER", "Ljava/util/function/BiFunction;", .float 5), ("java/lang/StringUTF16", "$assertionsDisabled", "Z", .int 1), ("java/lang/StringUTF16", "HI_BYTE_SHIFT", "I", .int 0), ("java/lang/StringUTF16", "LO_BYTE_SHIFT", "I", .int 8), ("HookTies", "WEARS_HOME", "[I", .float 1), ("HookTies", "WEARS_AWAY", "[I", .float 0), ("HookTies", "RANK_ABOVE", "[I", .float 2)]
def lkG : List (Nat × Nat × Nat × Nat) := [(10, 38, 0, 386), (10, 1053, 1, 402), (13, 44, 2, 420), (13, 59, 3, 422), (13, 63, 4, 424), (6, 277, 5, 500), (6, 280, 6, 502), (6, 283, 7, 511)]
def sgE (k : Nat) : String × String × String × Value := sgT.getD k ("", "", "", .null)
def lkGc (e : Nat × Nat × Nat × Nat) : Bool := decide (lw_tbl[e.2.2.2]? = some (.fieldLink (cn e.1) e.2.1 (sgE e.2.2.1).1 (sgE e.2.2.1).2.1 (sgE e.2.2.1).2.2.1)) && decide (e.2.2.1 < sgT.length)
set_option maxRecDepth 100000 in
theorem lkG_chk : lkG.all lkGc = true := by decide +kernel
def lkC : List (Nat × Nat × Int32 × Nat) := [(15, 265, 1431655765, 583), (15, 266, 858993459, 584), (15, 267, 252645135, 585), (6, 257, 50000, 762), (7, 269, 50000, 1173)]
def lkCc (e : Nat × Nat × Int32 × Nat) : Bool := decide (lw_tbl[e.2.2.2]? = some (.constant (cn e.1) e.2.1 e.2.2.1))
set_option maxRecDepth 100000 in
theorem lkC_chk : lkC.all lkCc = true := by decide +kernel
def lkC2 : List (Nat × Nat × Int64 × Nat) := [(7, 74, 255, 897), (7, 84, 97, 920), (7, 86, 122, 921), (7, 88, 48, 925), (7, 90, 57, 926), (7, 191, 5, 1009), (7, 193, 12, 1018), (7, 205, 99, 1039), (7, 216, 60, 1072), (7, 237, -1, 1109), (7, 239, 3, 1110), (7, 247, 4, 1131), (7, 249, 20, 1136), (7, 254, 2, 1157), (7, 259, -9999, 1166), (7, 261, 9999, 1167), (7, 263, 25, 1168)]
def lkC2c (e : Nat × Nat × Int64 × Nat) : Bool := decide (lw_tbl[e.2.2.2]? = some (.constantLong (cn e.1) e.2.1 e.2.2.1))
set_option maxRecDepth 100000 in
theorem lkC2_chk : lkC2.all lkC2c = true := by decide +kernel
/-- links of classes: class, entry, class made; places of its word, of instantiable, of initialized -/
def lkN : List (Nat × Nat × Nat × Nat × Nat × Nat) := [(16, 7, 6, 103, 104, 87), (6, 7, 5, 111, 112, 88), (6, 19, 3, 159, 160, 90), (6, 48, 4, 184, 185, 91), (6, 55, 0, 214, 215, 92), (6, 68, 2, 232, 233, 93), (6, 75, 1, 252, 254, 94), (16, 10, 7, 796, 797, 96)]
def lkNc (e : Nat × Nat × Nat × Nat × Nat × Nat) : Bool := decide (lw_tbl[e.2.2.2.1]? = some (.classLink (cn e.1) e.2.1 (cn e.2.2.1))) && decide (lw_tbl[e.2.2.2.2.1]? = some (.instantiable (cn e.2.2.1) (fN e.2.2.1))) && decide (lw_tbl[e.2.2.2.2.2]? = some (.initialized (cn e.2.2.1))) && decide (e.2.2.1 < 8)
set_option maxRecDepth 100000 in
theorem lkN_chk : lkN.all lkNc = true := by decide +kernel
/-- String constants: class, entry, text; its number is its place -/
def lkT : List (Nat × Nat × String) := [(4, 38, "commons"), (4, 49, "house"), (4, 54, "want"), (4, 84, "pan"), (4, 86, "spoon"), (4, 88, "pipe"), (4, 90, "shoe"), (4, 92, "cap")]
