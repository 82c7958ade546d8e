/-! TABLES: the classes, the methods by their numbers; what a program decides of each instruction -/
def TC0 : u_T := fun k => match k with
  | 0 => ("EvenlyPoured$Kept", "there", "Z", false)
  | 1 => ("EvenlyPoured$Kept", "cups", "I", false)
  | 2 => ("EvenlyPoured$Kept", "dribs", "I", false)
  | 3 => ("EvenlyPoured$Kept", "pourers", "I", false)
  | 4 => ("EvenlyPoured$Kept", "rule", "I", false)
  | 5 => ("EvenlyPoured$Kept", "row", "[I", true)
  | 6 => ("EvenlyPoured$Kept", "prices", "[I", true)
  | _ => ("EvenlyPoured$Kept", "numbers", "[I", true)
def tC0 : Nat → FieldType := fun k => match k with
  | 0 => .boolean
  | 1 => .int
  | 2 => .int
  | 3 => .int
  | 4 => .int
  | 5 => .array .int
  | 6 => .array .int
  | _ => .array .int
def TC1 : u_T := fun k => match k with
  | 0 => ("EvenlyPoured$Pourer", "kind", "I", false)
  | _ => ("EvenlyPoured$Pourer", "number", "I", false)
def tC1 : Nat → FieldType := fun k => match k with
  | 0 => .int
  | _ => .int
def TC2 : u_T := fun k => match k with
  | 0 => ("EvenlyPoured$Pouring", "teller", "LEvenlyPoured$Teller;", true)
  | 1 => ("EvenlyPoured$Pouring", "full", "[I", true)
  | 2 => ("EvenlyPoured$Pouring", "strength", "[I", true)
  | 3 => ("EvenlyPoured$Pouring", "cups", "I", false)
  | 4 => ("EvenlyPoured$Pouring", "dribs", "I", false)
  | 5 => ("EvenlyPoured$Pouring", "was", "I", false)
  | 6 => ("EvenlyPoured$Pouring", "changes", "I", false)
  | _ => ("EvenlyPoured$Pouring", "dripped", "I", false)
def tC2 : Nat → FieldType := fun k => match k with
  | 0 => .object "EvenlyPoured$Teller"
  | 1 => .array .int
  | 2 => .array .int
  | 3 => .int
  | 4 => .int
  | 5 => .int
  | 6 => .int
  | _ => .int
def TC3 : u_T := fun k => match k with
  | 0 => ("EvenlyPoured$Reader", "tape", "LEvenlyPoured$Tape;", true)
  | 1 => ("EvenlyPoured$Reader", "hand", "I", false)
  | 2 => ("EvenlyPoured$Reader", "faulty", "Z", false)
  | 3 => ("EvenlyPoured$Reader", "formula", "[I", true)
  | _ => ("EvenlyPoured$Reader", "length", "I", false)
def tC3 : Nat → FieldType := fun k => match k with
  | 0 => .object "EvenlyPoured$Tape"
  | 1 => .int
  | 2 => .boolean
  | 3 => .array .int
  | _ => .int
def TC4 : u_T := fun k => match k with
  | 0 => ("EvenlyPoured$Search", "teller", "LEvenlyPoured$Teller;", true)
  | 1 => ("EvenlyPoured$Search", "gains", "[I", true)
  | 2 => ("EvenlyPoured$Search", "full", "[I", true)
  | 3 => ("EvenlyPoured$Search", "strength", "[I", true)
  | 4 => ("EvenlyPoured$Search", "way", "[I", true)
  | 5 => ("EvenlyPoured$Search", "rule", "I", false)
  | 6 => ("EvenlyPoured$Search", "cups", "I", false)
  | 7 => ("EvenlyPoured$Search", "dribs", "I", false)
  | 8 => ("EvenlyPoured$Search", "each", "I", false)
  | 9 => ("EvenlyPoured$Search", "fullerMost", "I", false)
  | 10 => ("EvenlyPoured$Search", "evenestKnown", "Z", false)
  | 11 => ("EvenlyPoured$Search", "evenestRow", "[I", true)
  | 12 => ("EvenlyPoured$Search", "leastUneven", "I", false)
  | 13 => ("EvenlyPoured$Search", "changesThen", "I", false)
  | 14 => ("EvenlyPoured$Search", "leastBy", "[I", true)
  | 15 => ("EvenlyPoured$Search", "tasted", "I", false)
  | _ => ("EvenlyPoured$Search", "firstTasted", "I", false)
def tC4 : Nat → FieldType := fun k => match k with
  | 0 => .object "EvenlyPoured$Teller"
  | 1 => .array .int
  | 2 => .array .int
  | 3 => .array .int
  | 4 => .array .int
  | 5 => .int
  | 6 => .int
  | 7 => .int
  | 8 => .int
  | 9 => .int
  | 10 => .boolean
  | 11 => .array .int
  | 12 => .int
  | 13 => .int
  | 14 => .array .int
  | 15 => .int
  | _ => .int
def TC5 : u_T := fun k => match k with
  | 0 => ("EvenlyPoured$Sheet", "sort", "I", false)
  | 1 => ("EvenlyPoured$Sheet", "size", "I", false)
  | _ => ("EvenlyPoured$Sheet", "items", "[I", true)
def tC5 : Nat → FieldType := fun k => match k with
  | 0 => .int
  | 1 => .int
  | _ => .array .int
def TC6 : u_T := fun k => match k with
  | 0 => ("EvenlyPoured$Tape", "bytes", "[I", true)
  | 1 => ("EvenlyPoured$Tape", "size", "I", false)
  | 2 => ("EvenlyPoured$Tape", "tokens", "[I", true)
  | 3 => ("EvenlyPoured$Tape", "places", "[I", true)
  | _ => ("EvenlyPoured$Tape", "split", "I", false)
def tC6 : Nat → FieldType := fun k => match k with
  | 0 => .array .int
  | 1 => .int
  | 2 => .array .int
  | 3 => .array .int
  | _ => .int
def TC7 : u_T := fun k => match k with
  | 0 => ("EvenlyPoured$Teller", "names", "[I", true)
  | 1 => ("EvenlyPoured$Teller", "stack", "[I", true)
  | _ => ("EvenlyPoured$Teller", "text", "LEvenlyPoured$Text;", false)
def tC7 : Nat → FieldType := fun k => match k with
  | 0 => .array .int
  | 1 => .array .int
  | _ => .object "EvenlyPoured$Text"
def TC8 : u_T := fun k => match k with
  | 0 => ("EvenlyPoured$Text", "strong", "[I", true)
  | 1 => ("EvenlyPoured$Text", "drips", "[I", true)
  | _ => ("EvenlyPoured$Text", "liked", "[I", true)
def tC8 : Nat → FieldType := fun k => match k with
  | 0 => .array .int
  | 1 => .array .int
  | _ => .array .int
def TC9 : u_T := fun k => match k with
  | 0 => ("EvenlyPoured", "cups", "I", false)
  | 1 => ("EvenlyPoured", "dribs", "I", false)
  | 2 => ("EvenlyPoured", "row", "[I", true)
  | 3 => ("EvenlyPoured", "prices", "[I", true)
  | 4 => ("EvenlyPoured", "pourers", "[LEvenlyPoured$Pourer;", true)
  | 5 => ("EvenlyPoured", "pourersMade", "I", false)
  | 6 => ("EvenlyPoured", "texts", "[LEvenlyPoured$Text;", true)
  | 7 => ("EvenlyPoured", "textsMade", "I", false)
  | 8 => ("EvenlyPoured", "rule", "I", false)
  | 9 => ("EvenlyPoured", "tape", "LEvenlyPoured$Tape;", true)
  | 10 => ("EvenlyPoured", "reader", "LEvenlyPoured$Reader;", true)
  | 11 => ("EvenlyPoured", "sheets", "[LEvenlyPoured$Sheet;", true)
  | 12 => ("EvenlyPoured", "kept", "LEvenlyPoured$Kept;", true)
  | 13 => ("EvenlyPoured", "pouring", "LEvenlyPoured$Pouring;", true)
  | 14 => ("EvenlyPoured", "search", "LEvenlyPoured$Search;", true)
  | 15 => ("EvenlyPoured", "pouredRow", "[I", true)
  | 16 => ("EvenlyPoured", "had", "[I", true)
  | _ => ("EvenlyPoured", "gone", "[Z", true)
def tC9 : Nat → FieldType := fun k => match k with
  | 0 => .int
  | 1 => .int
  | 2 => .array .int
  | 3 => .array .int
  | 4 => .array (.object "EvenlyPoured$Pourer")
  | 5 => .int
  | 6 => .array (.object "EvenlyPoured$Text")
  | 7 => .int
  | 8 => .int
  | 9 => .object "EvenlyPoured$Tape"
  | 10 => .object "EvenlyPoured$Reader"
  | 11 => .array (.object "EvenlyPoured$Sheet")
  | 12 => .object "EvenlyPoured$Kept"
  | 13 => .object "EvenlyPoured$Pouring"
  | 14 => .object "EvenlyPoured$Search"
  | 15 => .array .int
  | 16 => .array .int
  | _ => .array .boolean
def TC10 : u_T := fun k => match k with
  | 0 => ("EvenlyPouredModel", "thrown", "I", false)
  | 1 => ("EvenlyPouredModel", "texts", "[I", true)
  | 2 => ("EvenlyPouredModel", "textSize", "[I", true)
  | 3 => ("EvenlyPouredModel", "textCount", "I", false)
  | 4 => ("EvenlyPouredModel", "rule", "I", false)
  | 5 => ("EvenlyPouredModel", "tape", "[I", true)
  | 6 => ("EvenlyPouredModel", "taped", "I", false)
  | 7 => ("EvenlyPouredModel", "cups", "I", false)
  | 8 => ("EvenlyPouredModel", "dribs", "I", false)
  | 9 => ("EvenlyPouredModel", "row", "[I", true)
  | 10 => ("EvenlyPouredModel", "kinds", "[I", true)
  | 11 => ("EvenlyPouredModel", "numbers", "[I", true)
  | 12 => ("EvenlyPouredModel", "pourers", "I", false)
  | 13 => ("EvenlyPouredModel", "prices", "[I", true)
  | 14 => ("EvenlyPouredModel", "ofDrib", "I", false)
  | 15 => ("EvenlyPouredModel", "ofDribs", "I", false)
  | 16 => ("EvenlyPouredModel", "ofCups", "I", false)
  | 17 => ("EvenlyPouredModel", "ofCup", "I", false)
  | 18 => ("EvenlyPouredModel", "ofFull", "I", false)
  | 19 => ("EvenlyPouredModel", "ofWas", "I", false)
  | 20 => ("EvenlyPouredModel", "from", "I", false)
  | 21 => ("EvenlyPouredModel", "size", "I", false)
  | 22 => ("EvenlyPouredModel", "here", "I", false)
  | 23 => ("EvenlyPouredModel", "token", "I", false)
  | 24 => ("EvenlyPouredModel", "tokenAt", "I", false)
  | 25 => ("EvenlyPouredModel", "tokenWorth", "J", false)
  | 26 => ("EvenlyPouredModel", "open", "I", false)
  | 27 => ("EvenlyPouredModel", "bad", "Z", false)
  | 28 => ("EvenlyPouredModel", "fault", "I", false)
  | 29 => ("EvenlyPouredModel", "strongNote", "[I", true)
  | 30 => ("EvenlyPouredModel", "dripsNote", "[I", true)
  | 31 => ("EvenlyPouredModel", "fulls", "[I", true)
  | 32 => ("EvenlyPouredModel", "strengths", "[I", true)
  | 33 => ("EvenlyPouredModel", "last", "I", false)
  | 34 => ("EvenlyPouredModel", "changes", "I", false)
  | 35 => ("EvenlyPouredModel", "dripped", "I", false)
  | 36 => ("EvenlyPouredModel", "way", "[I", true)
  | 37 => ("EvenlyPouredModel", "bestWay", "[I", true)
  | 38 => ("EvenlyPouredModel", "bestUneven", "I", false)
  | 39 => ("EvenlyPouredModel", "bestChanges", "I", false)
  | 40 => ("EvenlyPouredModel", "sought", "I", false)
  | 41 => ("EvenlyPouredModel", "told1", "I", false)
  | 42 => ("EvenlyPouredModel", "found", "I", false)
  | 43 => ("EvenlyPouredModel", "havings", "[I", true)
  | 44 => ("EvenlyPouredModel", "rowKept", "[I", true)
  | 45 => ("EvenlyPouredModel", "pricesKept", "[I", true)
  | 46 => ("EvenlyPouredModel", "numbersKept", "[I", true)
  | 47 => ("EvenlyPouredModel", "dribsKept", "I", false)
  | 48 => ("EvenlyPouredModel", "cupsKept", "I", false)
  | 49 => ("EvenlyPouredModel", "pourersKept", "I", false)
  | 50 => ("EvenlyPouredModel", "ruleKept", "I", false)
  | 51 => ("EvenlyPouredModel", "isThere", "[Z", true)
  | 52 => ("EvenlyPouredModel", "sorts", "[I", true)
  | 53 => ("EvenlyPouredModel", "sheetSize", "[I", true)
  | _ => ("EvenlyPouredModel", "items", "[I", true)
def tC10 : Nat → FieldType := fun k => match k with
  | 0 => .int
  | 1 => .array .int
  | 2 => .array .int
  | 3 => .int
  | 4 => .int
  | 5 => .array .int
  | 6 => .int
  | 7 => .int
  | 8 => .int
  | 9 => .array .int
  | 10 => .array .int
  | 11 => .array .int
  | 12 => .int
  | 13 => .array .int
  | 14 => .int
  | 15 => .int
  | 16 => .int
  | 17 => .int
  | 18 => .int
  | 19 => .int
  | 20 => .int
  | 21 => .int
  | 22 => .int
  | 23 => .int
  | 24 => .int
  | 25 => .long
  | 26 => .int
  | 27 => .boolean
  | 28 => .int
  | 29 => .array .int
  | 30 => .array .int
  | 31 => .array .int
  | 32 => .array .int
  | 33 => .int
  | 34 => .int
  | 35 => .int
  | 36 => .array .int
  | 37 => .array .int
  | 38 => .int
  | 39 => .int
  | 40 => .int
  | 41 => .int
  | 42 => .int
  | 43 => .array .int
  | 44 => .array .int
  | 45 => .array .int
  | 46 => .array .int
  | 47 => .int
  | 48 => .int
  | 49 => .int
  | 50 => .int
  | 51 => .array .boolean
  | 52 => .array .int
  | 53 => .array .int
  | _ => .array .int
abbrev am_cl : List vw_C := [("EvenlyPoured$Kept", TC0, 8), ("EvenlyPoured$Pourer", TC1, 2), ("EvenlyPoured$Pouring", TC2, 8), ("EvenlyPoured$Reader", TC3, 5), ("EvenlyPoured$Search", TC4, 17), ("EvenlyPoured$Sheet", TC5, 3), ("EvenlyPoured$Tape", TC6, 5), ("EvenlyPoured$Teller", TC7, 3), ("EvenlyPoured$Text", TC8, 3), ("EvenlyPoured", TC9, 18), ("EvenlyPouredModel", TC10, 55)]
def am_ty (c : Nat) : Nat → FieldType := match c with
  | 0 => tC0
  | 1 => tC1
  | 2 => tC2
  | 3 => tC3
  | 4 => tC4
  | 5 => tC5
  | 6 => tC6
  | 7 => tC7
  | 8 => tC8
  | 9 => tC9
  | _ => tC10
/-- a method: name, code, slots, answer, is it static; the places in lw_tbl of its code, of static or instanceMethod, of selects, of initialized -/
abbrev am_N : Type := MethodName × ByteArray × Nat × Option FieldType × Bool × Nat × Nat × Nat × Nat × Nat
noncomputable def am_mt : List am_N := [(⟨"EvenlyPoured$Kept", "<init>", "()V"⟩, prog_2_method_1_code, 1, none, false, 1087, 1086, 9999, 1004, 0),
  (⟨"EvenlyPoured$Pourer", "<init>", "()V"⟩, prog_3_method_1_code, 1, none, false, 1140, 1139, 9999, 1006, 0),
  (⟨"EvenlyPoured$Pourer", "isOf", "(I)Z"⟩, prog_3_method_2_code, 4, (some .boolean), false, 4167, 4165, 4166, 1006, 1),
  (⟨"EvenlyPoured$Pourer", "goes", "(II[I)I"⟩, prog_3_method_3_code, 4, (some .int), false, 4029, 4027, 4028, 1006, 3),
  (⟨"EvenlyPoured$Pourer", "zigzag", "(II)I"⟩, prog_3_method_4_code, 3, (some .int), true, 4032, 4031, 9999, 1006, 2),
  (⟨"EvenlyPoured$Pourer", "digits", "(II)I"⟩, prog_3_method_5_code, 6, (some .int), true, 4035, 4034, 9999, 1006, 2),
  (⟨"EvenlyPoured$Pourer", "weakest", "(I[I)I"⟩, prog_3_method_6_code, 4, (some .int), true, 4039, 4038, 9999, 1006, 2),
  (⟨"EvenlyPoured$Pouring", "<init>", "(LEvenlyPoured$Teller;)V"⟩, prog_4_method_1_code, 2, none, false, 1189, 1188, 9999, 1009, 1),
  (⟨"EvenlyPoured$Pouring", "begin", "(LEvenlyPoured$Text;II)V"⟩, prog_4_method_2_code, 4, none, false, 3087, 3085, 3086, 1009, 3),
  (⟨"EvenlyPoured$Pouring", "drop", "(III)V"⟩, prog_4_method_3_code, 7, none, false, 3096, 3094, 3095, 1009, 3),
  (⟨"EvenlyPoured$Pouring", "uneven", "()I"⟩, prog_4_method_4_code, 1, (some .int), false, 3142, 3140, 3141, 1009, 0),
  (⟨"EvenlyPoured$Pouring", "odd", "()I"⟩, prog_4_method_5_code, 3, (some .int), false, 3151, 3149, 3150, 1009, 0),
  (⟨"EvenlyPoured$Pouring", "wanted", "(I)I"⟩, prog_4_method_6_code, 2, (some .int), false, 3130, 3128, 3129, 1009, 1),
  (⟨"EvenlyPoured$Reader", "<init>", "(LEvenlyPoured$Tape;)V"⟩, prog_5_method_1_code, 2, none, false, 1063, 1062, 9999, 1003, 1),
  (⟨"EvenlyPoured$Reader", "read", "()LEvenlyPoured$Text;"⟩, prog_5_method_2_code, 4, (some (.object "EvenlyPoured$Text")), false, 2167, 2165, 2166, 1003, 0),
  (⟨"EvenlyPoured$Reader", "place", "()I"⟩, prog_5_method_3_code, 1, (some .int), false, 3066, 3064, 3065, 1003, 0),
  (⟨"EvenlyPoured$Reader", "token", "()I"⟩, prog_5_method_4_code, 1, (some .int), false, 3021, 3020, 14, 1003, 0),
  (⟨"EvenlyPoured$Reader", "step", "()V"⟩, prog_5_method_5_code, 1, none, false, 3025, 3024, 15, 1003, 0),
  (⟨"EvenlyPoured$Reader", "clause", "(I)[I"⟩, prog_5_method_6_code, 2, (some (.array .int)), false, 3013, 3012, 12, 1003, 1),
  (⟨"EvenlyPoured$Reader", "demand", "(I)V"⟩, prog_5_method_7_code, 2, none, false, 3017, 3016, 13, 1003, 1),
  (⟨"EvenlyPoured$Reader", "part", "(II)V"⟩, prog_5_method_8_code, 6, none, false, 3029, 3028, 16, 1003, 2),
  (⟨"EvenlyPoured$Reader", "one", "(I)V"⟩, prog_5_method_9_code, 3, none, false, 3033, 3032, 17, 1003, 1),
  (⟨"EvenlyPoured$Reader", "inside", "(II)V"⟩, prog_5_method_10_code, 3, none, false, 3041, 3040, 19, 1003, 2),
  (⟨"EvenlyPoured$Reader", "put", "(I)V"⟩, prog_5_method_11_code, 2, none, false, 3037, 3036, 18, 1003, 1),
  (⟨"EvenlyPoured$Reader", "levelOf", "(I)I"⟩, prog_5_method_12_code, 1, (some .int), true, 3044, 3043, 9999, 1003, 1),
  (⟨"EvenlyPoured$Search", "<init>", "(LEvenlyPoured$Teller;)V"⟩, prog_6_method_1_code, 2, none, false, 1224, 1223, 9999, 1010, 1),
  (⟨"EvenlyPoured$Search", "ready", "(ILEvenlyPoured$Text;II)V"⟩, prog_6_method_2_code, 7, none, false, 3195, 3193, 3194, 1010, 4),
  (⟨"EvenlyPoured$Search", "learnGains", "(II)V"⟩, prog_6_method_3_code, 7, none, false, 3200, 3199, 29, 1010, 2),
  (⟨"EvenlyPoured$Search", "gainPlace", "(IIII)I"⟩, prog_6_method_4_code, 5, (some .int), false, 3207, 3206, 30, 1010, 4),
  (⟨"EvenlyPoured$Search", "gain", "(III)I"⟩, prog_6_method_5_code, 5, (some .int), false, 3235, 3234, 35, 1010, 3),
  (⟨"EvenlyPoured$Search", "findEvenest", "()V"⟩, prog_6_method_6_code, 1, none, false, 3211, 3209, 3210, 1010, 0),
  (⟨"EvenlyPoured$Search", "fewestChanges", "(I)I"⟩, prog_6_method_7_code, 3, (some .int), false, 4009, 4007, 4008, 1010, 1),
  (⟨"EvenlyPoured$Search", "empty", "()V"⟩, prog_6_method_8_code, 1, none, false, 3216, 3215, 31, 1010, 0),
  (⟨"EvenlyPoured$Search", "tryBalanced", "(III)V"⟩, prog_6_method_9_code, 6, none, false, 3220, 3219, 32, 1010, 3),
  (⟨"EvenlyPoured$Search", "hasRoom", "(I)Z"⟩, prog_6_method_10_code, 4, (some .boolean), false, 3231, 3230, 34, 1010, 1),
  (⟨"EvenlyPoured$Search", "judge", "(I)V"⟩, prog_6_method_11_code, 3, none, false, 3224, 3223, 33, 1010, 1),
  (⟨"EvenlyPoured$Search", "findTasted", "([I)V"⟩, prog_6_method_12_code, 2, none, false, 4075, 4073, 4074, 1010, 1),
  (⟨"EvenlyPoured$Search", "tryTold", "(III[I)V"⟩, prog_6_method_13_code, 7, none, false, 4079, 4078, 40, 1010, 4),
  (⟨"EvenlyPoured$Search", "tellTasted", "(I[I)V"⟩, prog_6_method_14_code, 4, none, false, 4083, 4082, 41, 1010, 2),
  (⟨"EvenlyPoured$Sheet", "<init>", "()V"⟩, prog_7_method_1_code, 1, none, false, 1154, 1153, 9999, 1007, 0),
  (⟨"EvenlyPoured$Sheet", "begin", "(II)V"⟩, prog_7_method_2_code, 3, none, false, 4134, 4132, 4133, 1007, 2),
  (⟨"EvenlyPoured$Sheet", "isMissing", "()Z"⟩, prog_7_method_3_code, 1, (some .boolean), false, 4071, 4069, 4070, 1007, 0),
  (⟨"EvenlyPoured$Sheet", "has", "(I)Z"⟩, prog_7_method_4_code, 2, (some .boolean), false, 4143, 4141, 4142, 1007, 1),
  (⟨"EvenlyPoured$Sheet", "hasAll", "(II)Z"⟩, prog_7_method_5_code, 3, (some .boolean), false, 4155, 4153, 4154, 1007, 2),
  (⟨"EvenlyPoured$Sheet", "write", "(II)V"⟩, prog_7_method_6_code, 3, none, false, 4147, 4145, 4146, 1007, 2),
  (⟨"EvenlyPoured$Tape", "<init>", "()V"⟩, prog_8_method_1_code, 1, none, false, 1035, 1034, 9999, 1002, 0),
  (⟨"EvenlyPoured$Tape", "splitUp", "()V"⟩, prog_8_method_2_code, 4, none, false, 2171, 2169, 2170, 1002, 0),
  (⟨"EvenlyPoured$Tape", "endOf", "(I)I"⟩, prog_8_method_3_code, 3, (some .int), false, 2175, 2174, 7, 1002, 1),
  (⟨"EvenlyPoured$Tape", "tokenOf", "(II)I"⟩, prog_8_method_4_code, 4, (some .int), false, 2185, 2184, 8, 1002, 2),
  (⟨"EvenlyPoured$Tape", "numberOf", "(II)I"⟩, prog_8_method_5_code, 5, (some .int), false, 3006, 3005, 11, 1002, 2),
  (⟨"EvenlyPoured$Tape", "wordOf", "(II)I"⟩, prog_8_method_6_code, 6, (some .int), false, 2189, 2188, 9, 1002, 2),
  (⟨"EvenlyPoured$Tape", "isSpelled", "(III)Z"⟩, prog_8_method_7_code, 5, (some .boolean), false, 3002, 3001, 10, 1002, 3),
  (⟨"EvenlyPoured$Tape", "isLetter", "(I)Z"⟩, prog_8_method_8_code, 1, (some .boolean), true, 2178, 2177, 9999, 1002, 1),
  (⟨"EvenlyPoured$Tape", "isDigit", "(I)Z"⟩, prog_8_method_9_code, 1, (some .boolean), true, 2181, 2180, 9999, 1002, 1),
  (⟨"EvenlyPoured$Tape", "isSign", "(I)Z"⟩, prog_8_method_10_code, 1, (some .boolean), true, 3009, 3008, 9999, 1002, 1),
  (⟨"EvenlyPoured$Teller", "<init>", "(LEvenlyPoured$Text;)V"⟩, prog_9_method_1_code, 2, none, false, 1173, 1172, 9999, 1008, 1),
  (⟨"EvenlyPoured$Teller", "begin", "(LEvenlyPoured$Text;II)V"⟩, prog_9_method_2_code, 4, none, false, 3091, 3089, 3090, 1008, 3),
  (⟨"EvenlyPoured$Teller", "look", "(IIII)V"⟩, prog_9_method_3_code, 5, none, false, 3100, 3098, 3099, 1008, 4),
  (⟨"EvenlyPoured$Teller", "strong", "()I"⟩, prog_9_method_4_code, 1, (some .int), false, 3104, 3102, 3103, 1008, 0),
  (⟨"EvenlyPoured$Teller", "drips", "(I)I"⟩, prog_9_method_5_code, 2, (some .int), false, 3126, 3124, 3125, 1008, 1),
  (⟨"EvenlyPoured$Teller", "liked", "()I"⟩, prog_9_method_6_code, 1, (some .int), false, 3134, 3132, 3133, 1008, 0),
  (⟨"EvenlyPoured$Teller", "within", "(II)I"⟩, prog_9_method_7_code, 2, (some .int), true, 3118, 3117, 9999, 1008, 2),
  (⟨"EvenlyPoured$Teller", "worth", "([I)I"⟩, prog_9_method_8_code, 6, (some .int), false, 3108, 3107, 22, 1008, 1),
  (⟨"EvenlyPoured$Teller", "named", "(I)I"⟩, prog_9_method_9_code, 2, (some .int), false, 3112, 3111, 23, 1008, 1),
  (⟨"EvenlyPoured$Teller", "joined", "(III)I"⟩, prog_9_method_10_code, 3, (some .int), true, 3115, 3114, 9999, 1008, 3),
  (⟨"EvenlyPoured$Text", "<init>", "([I[I[I)V"⟩, prog_10_method_1_code, 4, none, false, 1121, 1120, 9999, 1005, 3),
  (⟨"EvenlyPoured", "<init>", "()V"⟩, prog_1_method_1_code, 6, none, false, 1023, 1022, 9999, 1001, 0),
  (⟨"EvenlyPoured", "set", "(III)I"⟩, prog_1_method_2_code, 4, (some .int), false, 2102, 2100, 2101, 1001, 3),
  (⟨"EvenlyPoured", "changeCups", "(I)I"⟩, prog_1_method_3_code, 3, (some .int), false, 2106, 2105, 0, 1001, 1),
  (⟨"EvenlyPoured", "changeDribs", "(I)I"⟩, prog_1_method_4_code, 3, (some .int), false, 2113, 2112, 1, 1001, 1),
  (⟨"EvenlyPoured", "changeNumber", "(II)I"⟩, prog_1_method_5_code, 4, (some .int), false, 2117, 2116, 2, 1001, 2),
  (⟨"EvenlyPoured", "changePrice", "(II)I"⟩, prog_1_method_6_code, 4, (some .int), false, 2125, 2124, 4, 1001, 2),
  (⟨"EvenlyPoured", "told", "(II)I"⟩, prog_1_method_7_code, 3, (some .int), false, 2132, 2130, 2131, 1001, 2),
  (⟨"EvenlyPoured", "lay", "(II)I"⟩, prog_1_method_8_code, 4, (some .int), false, 2136, 2134, 2135, 1001, 2),
  (⟨"EvenlyPoured", "at", "(I)I"⟩, prog_1_method_9_code, 2, (some .int), false, 2148, 2146, 2147, 1001, 1),
  (⟨"EvenlyPoured", "pourer", "(II)I"⟩, prog_1_method_10_code, 3, (some .int), false, 2152, 2150, 2151, 1001, 2),
  (⟨"EvenlyPoured", "isCup", "(I)Z"⟩, prog_1_method_11_code, 2, (some .boolean), false, 2144, 2143, 6, 1001, 1),
  (⟨"EvenlyPoured", "isDrib", "(I)Z"⟩, prog_1_method_12_code, 2, (some .boolean), false, 2140, 2139, 5, 1001, 1),
  (⟨"EvenlyPoured", "isPourer", "(I)Z"⟩, prog_1_method_13_code, 2, (some .boolean), false, 2121, 2120, 3, 1001, 1),
  (⟨"EvenlyPoured", "isKind", "(I)Z"⟩, prog_1_method_14_code, 1, (some .boolean), true, 2155, 2154, 9999, 1001, 1),
  (⟨"EvenlyPoured", "isThing", "(I)Z"⟩, prog_1_method_15_code, 1, (some .boolean), true, 2128, 2127, 9999, 1001, 1),
  (⟨"EvenlyPoured", "feed", "(I)I"⟩, prog_1_method_16_code, 2, (some .int), false, 2159, 2157, 2158, 1001, 1),
  (⟨"EvenlyPoured", "text", "()I"⟩, prog_1_method_17_code, 2, (some .int), false, 2163, 2161, 2162, 1001, 0),
  (⟨"EvenlyPoured", "force", "(I)I"⟩, prog_1_method_18_code, 3, (some .int), false, 3071, 3069, 3070, 1001, 1),
  (⟨"EvenlyPoured", "cup", "(II)I"⟩, prog_1_method_19_code, 3, (some .int), false, 3075, 3073, 3074, 1001, 2),
  (⟨"EvenlyPoured", "all", "(I)I"⟩, prog_1_method_20_code, 2, (some .int), false, 3138, 3136, 3137, 1001, 1),
  (⟨"EvenlyPoured", "mean", "(II)J"⟩, prog_1_method_21_code, 4, (some .long), false, 3171, 3169, 3170, 1001, 2),
  (⟨"EvenlyPoured", "evenest", "(I)I"⟩, prog_1_method_22_code, 2, (some .int), false, 3182, 3180, 3181, 1001, 1),
  (⟨"EvenlyPoured", "become", "()I"⟩, prog_1_method_23_code, 1, (some .int), false, 3239, 3237, 3238, 1001, 0),
  (⟨"EvenlyPoured", "fewest", "(I)I"⟩, prog_1_method_24_code, 2, (some .int), false, 4004, 4002, 4003, 1001, 1),
  (⟨"EvenlyPoured", "next", "(I)I"⟩, prog_1_method_25_code, 6, (some .int), false, 4013, 4011, 4012, 1001, 1),
  (⟨"EvenlyPoured", "unevenWithOneMore", "(I)I"⟩, prog_1_method_26_code, 3, (some .int), false, 4017, 4016, 36, 1001, 1),
  (⟨"EvenlyPoured", "pourRow", "()V"⟩, prog_1_method_27_code, 1, none, false, 3079, 3078, 20, 1001, 0),
  (⟨"EvenlyPoured", "pourAllBut", "(I)V"⟩, prog_1_method_28_code, 3, none, false, 3083, 3082, 21, 1001, 1),
  (⟨"EvenlyPoured", "greatestEvenPower", "()I"⟩, prog_1_method_29_code, 2, (some .int), false, 3159, 3158, 24, 1001, 0),
  (⟨"EvenlyPoured", "isAsMuchInEachCup", "(I)Z"⟩, prog_1_method_30_code, 4, (some .boolean), false, 3163, 3162, 25, 1001, 1),
  (⟨"EvenlyPoured", "sumOfPowers", "(II)I"⟩, prog_1_method_31_code, 7, (some .int), false, 3167, 3166, 26, 1001, 2),
  (⟨"EvenlyPoured", "waysAreFew", "()Z"⟩, prog_1_method_32_code, 3, (some .boolean), false, 3186, 3185, 27, 1001, 0),
  (⟨"EvenlyPoured", "findEvenest", "()V"⟩, prog_1_method_33_code, 1, none, false, 3191, 3190, 28, 1001, 0),
  (⟨"EvenlyPoured", "isPart", "(I)Z"⟩, prog_1_method_34_code, 1, (some .boolean), true, 3174, 3173, 9999, 1001, 1),
  (⟨"EvenlyPoured", "inLowestTerms", "(JJI)J"⟩, prog_1_method_35_code, 12, (some .long), true, 3178, 3177, 9999, 1001, 3),
  (⟨"EvenlyPoured", "poured", "(II)I"⟩, prog_1_method_36_code, 3, (some .int), false, 4021, 4019, 4020, 1001, 2),
  (⟨"EvenlyPoured", "follow", "(I)I"⟩, prog_1_method_37_code, 2, (some .int), false, 4043, 4041, 4042, 1001, 1),
  (⟨"EvenlyPoured", "which", "(I)I"⟩, prog_1_method_38_code, 6, (some .int), false, 4047, 4045, 4046, 1001, 1),
  (⟨"EvenlyPoured", "pourBy", "(LEvenlyPoured$Pourer;)V"⟩, prog_1_method_39_code, 4, none, false, 4025, 4024, 37, 1001, 1),
  (⟨"EvenlyPoured", "captains", "(I)I"⟩, prog_1_method_40_code, 4, (some .int), false, 4051, 4049, 4050, 1001, 1),
  (⟨"EvenlyPoured", "dearestLeft", "()I"⟩, prog_1_method_41_code, 3, (some .int), false, 4055, 4054, 38, 1001, 0),
  (⟨"EvenlyPoured", "mostLessLeast", "([II)I"⟩, prog_1_method_42_code, 5, (some .int), true, 3145, 3144, 9999, 1001, 2),
  (⟨"EvenlyPoured", "tastes", "(II)I"⟩, prog_1_method_43_code, 4, (some .int), false, 4060, 4058, 4059, 1001, 2),
  (⟨"EvenlyPoured", "whom", "(I)I"⟩, prog_1_method_44_code, 5, (some .int), false, 4087, 4085, 4086, 1001, 1),
  (⟨"EvenlyPoured", "forgotten", "(I)I"⟩, prog_1_method_45_code, 4, (some .int), false, 4095, 4093, 4094, 1001, 1),
  (⟨"EvenlyPoured", "notTasted", "(I)I"⟩, prog_1_method_46_code, 2, (some .int), false, 4067, 4066, 39, 1001, 1),
  (⟨"EvenlyPoured", "tastesAsTold", "([II)Z"⟩, prog_1_method_47_code, 4, (some .boolean), false, 4091, 4090, 42, 1001, 2),
  (⟨"EvenlyPoured", "drawn", "(II)I"⟩, prog_1_method_48_code, 3, (some .int), false, 4099, 4097, 4098, 1001, 2),
  (⟨"EvenlyPoured", "chance", "(IIII)J"⟩, prog_1_method_49_code, 8, (some .long), false, 4111, 4109, 4110, 1001, 4),
  (⟨"EvenlyPoured", "isOff", "(I)Z"⟩, prog_1_method_50_code, 1, (some .boolean), true, 4102, 4101, 9999, 1001, 1),
  (⟨"EvenlyPoured", "unevenByLot", "(II)I"⟩, prog_1_method_51_code, 5, (some .int), false, 4106, 4105, 43, 1001, 2),
  (⟨"EvenlyPoured", "image", "()I"⟩, prog_1_method_52_code, 2, (some .int), false, 4115, 4113, 4114, 1001, 0),
  (⟨"EvenlyPoured", "back", "()I"⟩, prog_1_method_53_code, 2, (some .int), false, 4119, 4117, 4118, 1001, 0),
  (⟨"EvenlyPoured", "count", "(I)I"⟩, prog_1_method_54_code, 2, (some .int), false, 4123, 4121, 4122, 1001, 1),
  (⟨"EvenlyPoured", "sheet", "(III)I"⟩, prog_1_method_55_code, 4, (some .int), false, 4127, 4125, 4126, 1001, 3),
  (⟨"EvenlyPoured", "cell", "(III)I"⟩, prog_1_method_56_code, 4, (some .int), false, 4139, 4137, 4138, 1001, 3),
  (⟨"EvenlyPoured", "copy", "(IIIII)I"⟩, prog_1_method_57_code, 8, (some .int), false, 4151, 4149, 4150, 1001, 5),
  (⟨"EvenlyPoured", "rows", "(IIII)I"⟩, prog_1_method_58_code, 9, (some .int), false, 4159, 4157, 4158, 1001, 4),
  (⟨"EvenlyPoured", "taken", "(II)I"⟩, prog_1_method_59_code, 3, (some .int), false, 4163, 4161, 4162, 1001, 2),
  (⟨"EvenlyPoured", "isSheet", "(I)Z"⟩, prog_1_method_60_code, 1, (some .boolean), true, 4063, 4062, 9999, 1001, 1),
  (⟨"EvenlyPoured", "isSort", "(I)Z"⟩, prog_1_method_61_code, 1, (some .boolean), true, 4130, 4129, 9999, 1001, 1),
  (⟨"EvenlyPouredModel", "in", "(JJJ)Z"⟩, prog_12_method_2_code, 6, (some .boolean), true, 5113, 5112, 9999, 1011, 3),
  (⟨"EvenlyPouredModel", "within", "(III)I"⟩, prog_12_method_3_code, 3, (some .int), true, 6022, 6021, 9999, 1011, 3),
  (⟨"EvenlyPouredModel", "<init>", "()V"⟩, prog_12_method_4_code, 1, none, false, 4175, 4174, 9999, 1011, 0),
  (⟨"EvenlyPouredModel", "spell", "(IIIIIIIII)V"⟩, prog_12_method_5_code, 10, none, false, 4180, 4179, 44, 1011, 9),
  (⟨"EvenlyPouredModel", "isCup", "(I)Z"⟩, prog_12_method_6_code, 2, (some .boolean), false, 5135, 5134, 46, 1011, 1),
  (⟨"EvenlyPouredModel", "isPourer", "(I)Z"⟩, prog_12_method_7_code, 2, (some .boolean), false, 5117, 5116, 45, 1011, 1),
  (⟨"EvenlyPouredModel", "set", "(III)I"⟩, prog_12_method_8_code, 6, (some .int), false, 5109, 5107, 5108, 1011, 3),
  (⟨"EvenlyPouredModel", "told", "(II)I"⟩, prog_12_method_9_code, 3, (some .int), false, 5126, 5124, 5125, 1011, 2),
  (⟨"EvenlyPouredModel", "lay", "(II)I"⟩, prog_12_method_10_code, 4, (some .int), false, 5131, 5129, 5130, 1011, 2),
  (⟨"EvenlyPouredModel", "at", "(I)I"⟩, prog_12_method_11_code, 2, (some .int), false, 5139, 5137, 5138, 1011, 1),
  (⟨"EvenlyPouredModel", "pourer", "(II)I"⟩, prog_12_method_12_code, 3, (some .int), false, 5143, 5141, 5142, 1011, 2),
  (⟨"EvenlyPouredModel", "feed", "(I)I"⟩, prog_12_method_13_code, 2, (some .int), false, 5148, 5146, 5147, 1011, 1),
  (⟨"EvenlyPouredModel", "byteAt", "(I)I"⟩, prog_12_method_14_code, 2, (some .int), false, 5165, 5164, 49, 1011, 1),
  (⟨"EvenlyPouredModel", "nextToken", "()V"⟩, prog_12_method_15_code, 3, none, false, 5161, 5160, 48, 1011, 0),
  (⟨"EvenlyPouredModel", "fail", "()V"⟩, prog_12_method_16_code, 1, none, false, 5186, 5185, 53, 1011, 0),
  (⟨"EvenlyPouredModel", "isLetter", "(II)Z"⟩, prog_12_method_17_code, 3, (some .boolean), false, 5178, 5177, 51, 1011, 2),
  (⟨"EvenlyPouredModel", "isWord", "(IIIIIIII)Z"⟩, prog_12_method_18_code, 9, (some .boolean), false, 5174, 5173, 50, 1011, 8),
  (⟨"EvenlyPouredModel", "isSign", "(I)Z"⟩, prog_12_method_19_code, 2, (some .boolean), false, 5218, 5217, 61, 1011, 1),
  (⟨"EvenlyPouredModel", "opens", "()Z"⟩, prog_12_method_20_code, 1, (some .boolean), false, 5202, 5201, 57, 1011, 0),
  (⟨"EvenlyPouredModel", "name", "()I"⟩, prog_12_method_21_code, 1, (some .int), false, 5222, 5221, 62, 1011, 0),
  (⟨"EvenlyPouredModel", "atom", "()I"⟩, prog_12_method_22_code, 2, (some .int), false, 5214, 5213, 60, 1011, 0),
  (⟨"EvenlyPouredModel", "term", "()I"⟩, prog_12_method_23_code, 2, (some .int), false, 5210, 5209, 59, 1011, 0),
  (⟨"EvenlyPouredModel", "added", "()I"⟩, prog_12_method_24_code, 4, (some .int), false, 5206, 5205, 58, 1011, 0),
  (⟨"EvenlyPouredModel", "not", "()I"⟩, prog_12_method_25_code, 4, (some .int), false, 5198, 5197, 56, 1011, 0),
  (⟨"EvenlyPouredModel", "both", "()I"⟩, prog_12_method_26_code, 3, (some .int), false, 5194, 5193, 55, 1011, 0),
  (⟨"EvenlyPouredModel", "either", "()I"⟩, prog_12_method_27_code, 3, (some .int), false, 5190, 5189, 54, 1011, 0),
  (⟨"EvenlyPouredModel", "part", "(Z)I"⟩, prog_12_method_28_code, 3, (some .int), false, 5182, 5181, 52, 1011, 1),
  (⟨"EvenlyPouredModel", "read", "(II)I"⟩, prog_12_method_29_code, 6, (some .int), false, 5157, 5156, 47, 1011, 2),
  (⟨"EvenlyPouredModel", "text", "()I"⟩, prog_12_method_30_code, 2, (some .int), false, 5153, 5151, 5152, 1011, 0),
  (⟨"EvenlyPouredModel", "force", "(I)I"⟩, prog_12_method_31_code, 3, (some .int), false, 5228, 5226, 5227, 1011, 1),
  (⟨"EvenlyPouredModel", "says", "(IIIII)I"⟩, prog_12_method_32_code, 6, (some .int), false, 6019, 6018, 68, 1011, 5),
  (⟨"EvenlyPouredModel", "forgets", "()V"⟩, prog_12_method_33_code, 2, none, false, 6000, 5239, 64, 1011, 0),
  (⟨"EvenlyPouredModel", "noteOf", "(IIII)I"⟩, prog_12_method_34_code, 4, (some .int), true, 6015, 6014, 9999, 1011, 4),
  (⟨"EvenlyPouredModel", "strong", "(IIII)I"⟩, prog_12_method_35_code, 6, (some .int), false, 6012, 6011, 67, 1011, 4),
  (⟨"EvenlyPouredModel", "drips", "(IIII)I"⟩, prog_12_method_36_code, 6, (some .int), false, 6026, 6025, 69, 1011, 4),
  (⟨"EvenlyPouredModel", "begins", "()V"⟩, prog_12_method_37_code, 2, none, false, 6004, 6003, 65, 1011, 0),
  (⟨"EvenlyPouredModel", "pours", "(III)V"⟩, prog_12_method_38_code, 7, none, false, 6008, 6007, 66, 1011, 3),
  (⟨"EvenlyPouredModel", "uneven", "()I"⟩, prog_12_method_39_code, 4, (some .int), false, 6042, 6041, 72, 1011, 0),
  (⟨"EvenlyPouredModel", "poursRow", "()V"⟩, prog_12_method_40_code, 2, none, false, 5236, 5235, 63, 1011, 0),
  (⟨"EvenlyPouredModel", "cup", "(II)I"⟩, prog_12_method_41_code, 3, (some .int), false, 5232, 5230, 5231, 1011, 2),
  (⟨"EvenlyPouredModel", "power", "()I"⟩, prog_12_method_42_code, 4, (some .int), false, 6034, 6033, 70, 1011, 0),
  (⟨"EvenlyPouredModel", "sumOf", "(II)I"⟩, prog_12_method_43_code, 7, (some .int), false, 6038, 6037, 71, 1011, 2),
  (⟨"EvenlyPouredModel", "all", "(I)I"⟩, prog_12_method_44_code, 5, (some .int), false, 6030, 6028, 6029, 1011, 1),
  (⟨"EvenlyPouredModel", "lowest", "(JJI)J"⟩, prog_12_method_45_code, 11, (some .long), true, 6050, 6049, 9999, 1011, 3),
  (⟨"EvenlyPouredModel", "mean", "(II)J"⟩, prog_12_method_46_code, 3, (some .long), false, 6046, 6044, 6045, 1011, 2),
  (⟨"EvenlyPouredModel", "areMany", "()Z"⟩, prog_12_method_47_code, 3, (some .boolean), false, 6059, 6058, 73, 1011, 0),
  (⟨"EvenlyPouredModel", "goes", "(I)V"⟩, prog_12_method_48_code, 7, none, false, 6068, 6067, 75, 1011, 1),
  (⟨"EvenlyPouredModel", "areBalanced", "()Z"⟩, prog_12_method_49_code, 2, (some .boolean), false, 6080, 6079, 78, 1011, 0),
  (⟨"EvenlyPouredModel", "ends", "()V"⟩, prog_12_method_50_code, 3, none, false, 6072, 6071, 76, 1011, 0),
  (⟨"EvenlyPouredModel", "keepsWay", "()V"⟩, prog_12_method_51_code, 2, none, false, 6076, 6075, 77, 1011, 0),
  (⟨"EvenlyPouredModel", "seeks", "(II)V"⟩, prog_12_method_52_code, 3, none, false, 6064, 6063, 74, 1011, 2),
  (⟨"EvenlyPouredModel", "evenest", "(I)I"⟩, prog_12_method_53_code, 2, (some .int), false, 6054, 6052, 6053, 1011, 1),
  (⟨"EvenlyPouredModel", "become", "()I"⟩, prog_12_method_54_code, 2, (some .int), false, 6084, 6082, 6083, 1011, 0),
  (⟨"EvenlyPouredModel", "fewest", "(I)I"⟩, prog_12_method_55_code, 2, (some .int), false, 6088, 6086, 6087, 1011, 1),
  (⟨"EvenlyPouredModel", "next", "(I)I"⟩, prog_12_method_56_code, 7, (some .int), false, 6093, 6091, 6092, 1011, 1),
  (⟨"EvenlyPouredModel", "zigzag", "(I)I"⟩, prog_12_method_57_code, 2, (some .int), false, 6114, 6113, 82, 1011, 1),
  (⟨"EvenlyPouredModel", "digits", "(I)I"⟩, prog_12_method_58_code, 5, (some .int), false, 6110, 6109, 81, 1011, 1),
  (⟨"EvenlyPouredModel", "goesTo", "(II)I"⟩, prog_12_method_59_code, 7, (some .int), false, 6106, 6105, 80, 1011, 2),
  (⟨"EvenlyPouredModel", "poursBy", "(I)V"⟩, prog_12_method_60_code, 3, none, false, 6102, 6101, 79, 1011, 1),
  (⟨"EvenlyPouredModel", "poured", "(II)I"⟩, prog_12_method_61_code, 3, (some .int), false, 6097, 6095, 6096, 1011, 2),
  (⟨"EvenlyPouredModel", "follow", "(I)I"⟩, prog_12_method_62_code, 3, (some .int), false, 6118, 6116, 6117, 1011, 1),
  (⟨"EvenlyPouredModel", "which", "(I)I"⟩, prog_12_method_63_code, 6, (some .int), false, 6122, 6120, 6121, 1011, 1),
  (⟨"EvenlyPouredModel", "captains", "(I)I"⟩, prog_12_method_64_code, 6, (some .int), false, 6126, 6124, 6125, 1011, 1),
  (⟨"EvenlyPouredModel", "tasteBad", "(I)I"⟩, prog_12_method_65_code, 2, (some .int), false, 6137, 6136, 83, 1011, 1),
  (⟨"EvenlyPouredModel", "tastes", "(II)I"⟩, prog_12_method_66_code, 6, (some .int), false, 6130, 6128, 6129, 1011, 2),
  (⟨"EvenlyPouredModel", "whom", "(I)I"⟩, prog_12_method_67_code, 7, (some .int), false, 6141, 6139, 6140, 1011, 1),
  (⟨"EvenlyPouredModel", "forgotten", "(I)I"⟩, prog_12_method_68_code, 6, (some .int), false, 6145, 6143, 6144, 1011, 1),
  (⟨"EvenlyPouredModel", "draws", "(II)I"⟩, prog_12_method_69_code, 5, (some .int), false, 6154, 6153, 84, 1011, 2),
  (⟨"EvenlyPouredModel", "drawn", "(II)I"⟩, prog_12_method_70_code, 3, (some .int), false, 6149, 6147, 6148, 1011, 2),
  (⟨"EvenlyPouredModel", "chance", "(IIII)J"⟩, prog_12_method_71_code, 8, (some .long), false, 6159, 6157, 6158, 1011, 4),
  (⟨"EvenlyPouredModel", "image", "()I"⟩, prog_12_method_72_code, 2, (some .int), false, 6163, 6161, 6162, 1011, 0),
  (⟨"EvenlyPouredModel", "back", "()I"⟩, prog_12_method_73_code, 2, (some .int), false, 6167, 6165, 6166, 1011, 0),
  (⟨"EvenlyPouredModel", "count", "(I)I"⟩, prog_12_method_74_code, 2, (some .int), false, 6171, 6169, 6170, 1011, 1),
  (⟨"EvenlyPouredModel", "isSheet", "(I)Z"⟩, prog_12_method_75_code, 1, (some .boolean), true, 6133, 6132, 9999, 1011, 1),
  (⟨"EvenlyPouredModel", "sheet", "(III)I"⟩, prog_12_method_76_code, 5, (some .int), false, 6175, 6173, 6174, 1011, 3),
  (⟨"EvenlyPouredModel", "cell", "(III)I"⟩, prog_12_method_77_code, 4, (some .int), false, 6179, 6177, 6178, 1011, 3),
  (⟨"EvenlyPouredModel", "copy", "(IIIII)I"⟩, prog_12_method_78_code, 9, (some .int), false, 6183, 6181, 6182, 1011, 5),
  (⟨"EvenlyPouredModel", "rows", "(IIII)I"⟩, prog_12_method_79_code, 7, (some .int), false, 6187, 6185, 6186, 1011, 4),
  (⟨"EvenlyPouredModel", "over", "(I)I"⟩, prog_12_method_80_code, 1, (some .int), true, 6195, 6194, 9999, 1011, 1),
  (⟨"EvenlyPouredModel", "taken", "(II)I"⟩, prog_12_method_81_code, 4, (some .int), false, 6192, 6190, 6191, 1011, 2),
  (⟨"EvenlyPouredLaw", "law", "([I)Z"⟩, code, 4, some .boolean, true, 0, 0, 0, 1000, 1),
  (⟨"java/lang/String", "length", "()I"⟩, prog_15_method_54_code, 1, (some .int), false, 2194, 2192, 2193, 1013, 0),
  (⟨"java/lang/String", "charAt", "(I)C"⟩, prog_15_method_56_code, 2, (some .char), false, 2204, 2202, 2203, 1013, 1),
  (⟨"java/lang/String", "coder", "()B"⟩, prog_15_method_152_code, 1, (some .byte), false, 2198, 2196, 2197, 1013, 0),
  (⟨"java/lang/String", "isLatin1", "()Z"⟩, prog_15_method_154_code, 1, (some .boolean), false, 2208, 2206, 2207, 1013, 0),
  (⟨"java/lang/String", "checkIndex", "(II)V"⟩, prog_15_method_155_code, 2, none, true, 2214, 2213, 9999, 1013, 2),
  (⟨"java/lang/StringLatin1", "charAt", "([BI)C"⟩, prog_16_method_2_code, 2, (some .char), true, 2211, 2210, 9999, 1014, 2),
  (⟨"java/util/Arrays", "fill", "([II)V"⟩, prog_19_method_103_code, 4, none, true, 2109, 2108, 9999, 1012, 2),
  (⟨"java/util/Arrays", "copyOf", "([II)[I"⟩, prog_19_method_123_code, 3, (some (.array .int)), true, 3047, 3046, 9999, 1012, 2),
  (⟨"jdk/internal/util/Preconditions", "checkIndex", "(IILjava/util/function/BiFunction;)I"⟩, prog_20_method_11_code, 3, (some .int), true, 2219, 2218, 9999, 1015, 3)]
noncomputable def am_no0 : am_N := (⟨"", "", ""⟩, ⟨#[]⟩, 0, none, false, 0, 0, 0, 0, 0)
noncomputable def am_me (m : Nat) : am_N := am_mt.getD m am_no0
noncomputable def am_nm (m : Nat) : MethodName := (am_me m).1
noncomputable def am_cd (m : Nat) : ByteArray := (am_me m).2.1
noncomputable def am_rt (m : Nat) : Option FieldType := (am_me m).2.2.2.1
noncomputable def am_pc (m b : Nat) : Nat := (am_pcs.getD m []).getD b 0
/-- the words that every method has -/
noncomputable def am_W : List Cond := lw_tbl.filter goodWord
/-- lw_tbl in its pieces: a place is 1000 times the piece, and the place in it -/
noncomputable def am_tp (k : Nat) : List Cond := match k with
  | 0 => k2_sels lw_privs
  | 1 => tables_1_1
  | 2 => tables_1_2
  | 3 => tables_1_3
  | 4 => tables_1_4
  | 5 => tables_1_5
  | _ => tables_1_6
noncomputable def am_lk (pl : Nat) (w : Cond) : Bool := decide ((am_tp (pl / 1000))[pl % 1000]? = some w) && goodWord w
noncomputable def am_nk (pl : Nat) (w : Cond) : Bool := decide ((am_tp (pl / 1000))[pl % 1000]? = some w)
theorem am_tp_in {k : Nat} {w : Cond} (h : w ∈ am_tp k) : w ∈ lw_tbl := by
  unfold lw_tbl tables_1
  unfold am_tp at h
  split at h
  · exact List.mem_append_left _ h
  · exact List.mem_append_right _ (List.mem_append_left _ h)
  · exact List.mem_append_right _ (List.mem_append_right _ (List.mem_append_left _ h))
  · exact List.mem_append_right _ (List.mem_append_right _ (List.mem_append_right _ (List.mem_append_left _ h)))
  · exact List.mem_append_right _ (List.mem_append_right _ (List.mem_append_right _ (List.mem_append_right _ (List.mem_append_left _ h))))
  · exact List.mem_append_right _ (List.mem_append_right _ (List.mem_append_right _ (List.mem_append_right _ (List.mem_append_right _ (List.mem_append_left _ h)))))
  · exact List.mem_append_right _ (List.mem_append_right _ (List.mem_append_right _ (List.mem_append_right _ (List.mem_append_right _ (List.mem_append_right _ h)))))
theorem am_nk_in {pl : Nat} {w : Cond} (h : am_nk pl w = true) : w ∈ lw_tbl := am_tp_in (List.mem_of_getElem? (of_decide_eq_true h))
theorem am_lk_in {pl : Nat} {w : Cond} (h : am_lk pl w = true) : w ∈ am_W := by
  unfold am_lk at h
  rw [Bool.and_eq_true] at h
  exact List.mem_filter.mpr ⟨am_tp_in (List.mem_of_getElem? (of_decide_eq_true h.1)), h.2⟩
def am_wc (t : FieldType) : Nat := match t with
  | .int => 0
  | .long => 2
  | .boolean => 3
  | .object _ => 1
  | .array _ => 1
  | _ => 9
/-- a field's link: plain, or a nest mate's -/
noncomputable def am_fl (own : String) (k x y z w : Nat) : Bool := match am_cl[x]? with
  | some q => Nat.blt y q.2.2 && (decide ((q.2.1 y).1 = q.1) && (Nat.beq (am_wc (am_ty x y)) w && (am_lk z (.fieldLink own k q.1 (q.2.1 y).2.1 (q.2.1 y).2.2.1) || am_nk z (.fieldLinkNest own k q.1 (q.2.1 y).2.1 (q.2.1 y).2.2.1 "EvenlyPoured"))))
  | none => false
/-- a final field is written in its own class's constructor alone -/
noncomputable def am_fp (own name : String) (k x y z w : Nat) : Bool := match am_cl[x]? with
  | some q => Nat.blt y q.2.2 && (decide ((q.2.1 y).1 = q.1) && (Nat.beq (am_wc (am_ty x y)) w && (cond (q.2.1 y).2.2.2 (decide (name = "<init>") && (decide (q.1 = own) && am_lk z (.fieldLink own k q.1 (q.2.1 y).2.1 (q.2.1 y).2.2.1))) (am_lk z (.fieldLink own k q.1 (q.2.1 y).2.1 (q.2.1 y).2.2.1) || am_nk z (.fieldLinkNest own k q.1 (q.2.1 y).2.1 (q.2.1 y).2.2.1 "EvenlyPoured")))))
  | none => false
def am_rc (x : Nat) : String := match x with
  | 22 => "EvenlyPoured$Pourer"
  | 23 => "EvenlyPoured$Text"
  | _ => "EvenlyPoured$Sheet"
/-- the name of the class of a kind -/
def am_kn (c : Nat) : String := match am_cl[c]? with
  | some q => q.1
  | none => "java/lang/String"
/-- of a method, once: its words, its descriptor -/
noncomputable def am_okn (m : Nat) : Bool := match am_me m with
  | (y, cc, mx, r, st, p1, p2, p3, p4, n) => (am_lk p4 (.initialized y.cls) && (Nat.beq mx (am_mx m) && (Nat.ble mx 20 && (decide (y.cls ≠ "java/lang/invoke/MethodHandle" ∧ y.cls ≠ "java/lang/invoke/VarHandle") && (decide ((parseMethodDescriptor y.desc).map (fun d => d.parameters.length) = some n) && (plainName y.cls && (cond st (am_lk p2 (.static y)) (am_lk p2 (.instanceMethod y) && (decide (y.name = "<init>" ∧ r = none) || am_lk p3 (.selects y.cls y y))))))))))
noncomputable def am_cw (own : String) (k : Nat) (i : am_P) (sort : Nat) : Bool := match am_me (am_x i) with
  | (y, _, _, _, st, _, _, _, _, n) => (am_lk (am_im i).toNatClampNeg (.methodLink own k y) || am_nk (am_im i).toNatClampNeg (.methodLinkNest own k y "EvenlyPoured")) && (
      match sort with
      | 0 => cond st false (decide (¬ y.name = "<init>") && (Nat.ble 1 (am_w i) && ((Nat.ble (am_w i) 11 || Nat.beq (am_w i) 27) && (decide (am_kn (am_w i - 1) = y.cls) && Nat.beq (am_z i) (n + 1)))))
      | 1 => cond st (Nat.beq (am_w i) 0 && Nat.beq (am_z i) n) false
      | _ => cond st false (decide (y.name = "<init>") && (Nat.beq (am_w i) 0 && Nat.beq (am_z i) (n + 1))))
/-- a switch: each of its numbers leads to the block that the offset names -/
def am_swl (m pc : Nat) (tb : List (Int32 × Nat)) (ps : List (Int × Int)) (f : Nat → Nat) : Bool := match tb, ps with
  | [], [] => true
  | (k, b) :: tb, (a, o) :: ps => decide (k.toInt = a) && (decide ((pc : Int) + o = (f b : Int)) && am_swl m pc tb ps f)
  | _, _ => false
def am_tbl (lo : Int) (os : List Int) : List (Int × Int) := match os with
  | [] => []
  | o :: os => (lo, o) :: am_tbl (lo + 1) os
noncomputable def am_chk (m pc : Nat) (i : am_P) : Bool := match am_srt i with
  | 0 => decide (decode (am_cd m) pc = .ok (i.1, am_len i)) && (match i.1 with
    | .aload_n n => Nat.beq (am_len i) 1 && Nat.beq n.val (am_x i)
    | .iload_n n => Nat.beq (am_len i) 1 && Nat.beq n.val (am_x i)
    | .lload_n n => Nat.beq (am_len i) 1 && Nat.beq n.val (am_x i)
    | .astore_n n => Nat.beq (am_len i) 1 && Nat.beq n.val (am_x i)
    | .istore_n n => Nat.beq (am_len i) 1 && Nat.beq n.val (am_x i)
    | .lstore_n n => Nat.beq (am_len i) 1 && Nat.beq n.val (am_x i)
    | .aload n => Nat.beq (am_len i) 2 && Nat.beq n (am_x i)
    | .iload n => Nat.beq (am_len i) 2 && Nat.beq n (am_x i)
    | .lload n => Nat.beq (am_len i) 2 && Nat.beq n (am_x i)
    | .astore n => Nat.beq (am_len i) 2 && Nat.beq n (am_x i)
    | .istore n => Nat.beq (am_len i) 2 && Nat.beq n (am_x i)
    | .lstore n => Nat.beq (am_len i) 2 && Nat.beq n (am_x i)
    | .iinc k n => Nat.beq (am_len i) 3 && (Nat.beq k (am_x i) && decide (Int32.ofInt n = am_im i))
    | .iconst n => Nat.beq (am_len i) 1 && decide (Int32.ofInt n = am_im i)
    | .bipush n => Nat.beq (am_len i) 2 && decide ((Int8.ofInt n).toInt32 = am_im i)
    | .sipush n => Nat.beq (am_len i) 3 && decide ((Int16.ofInt n).toInt32 = am_im i)
    | .ldc k => Nat.beq (am_len i) 2 && cond (Nat.beq (am_w i) 1) (decide ((am_nm m).cls = "EvenlyPoured$Tape") && Nat.beq k 52) (am_lk (am_z i) (.constant (am_nm m).cls k (am_im i)))
    | .ldc_w k => Nat.beq (am_len i) 3 && am_lk (am_z i) (.constant (am_nm m).cls k (am_im i))
    | .lconst n => Nat.beq (am_len i) 1 && decide (Int64.ofNat n.val = am_kl (am_x i))
    | .ldc2_w k => Nat.beq (am_len i) 3 && am_lk (am_z i) (.constantLong (am_nm m).cls k (am_kl (am_x i)))
    | .getfield k => Nat.beq (am_len i) 3 && cond (Nat.beq (am_x i) 26) (cond (Nat.beq (am_y i) 0) (Nat.beq (am_w i) 0 && am_lk (am_z i) (.fieldLink (am_nm m).cls k "java/lang/String" "coder" "B")) (Nat.beq (am_y i) 1 && (Nat.beq (am_w i) 1 && am_lk (am_z i) (.fieldLink (am_nm m).cls k "java/lang/String" "value" "[B")))) (am_fl (am_nm m).cls k (am_x i) (am_y i) (am_z i) (am_w i))
    | .putfield k => Nat.beq (am_len i) 3 && am_fp (am_nm m).cls (am_nm m).name k (am_x i) (am_y i) (am_z i) (am_w i)
    | .getstatic k => Nat.beq (am_len i) 3 && (match am_x i with
      | 0 => am_nk (am_z i) (.fieldLinkNest (am_nm m).cls k "EvenlyPoured" "UNDER" "[I" "EvenlyPoured")
      | 1 => am_lk (am_z i) (.fieldLink (am_nm m).cls k "java/lang/String" "COMPACT_STRINGS" "Z")
      | _ => am_lk (am_z i) (.fieldLink (am_nm m).cls k "jdk/internal/util/Preconditions" "SIOOBE_FORMATTER" "Ljava/util/function/BiFunction;"))
    | .baload => Nat.beq (am_len i) 1 && (Nat.beq (am_x i) 21 || Nat.beq (am_x i) 25)
    | .aaload => Nat.beq (am_len i) 1 && (Nat.ble 22 (am_x i) && Nat.ble (am_x i) 24)
    | .aastore => Nat.beq (am_len i) 1 && (Nat.ble 22 (am_x i) && (Nat.ble (am_x i) 24 && decide (am_kn (am_y i) = am_rc (am_x i))))
    | .newarray t => Nat.beq (am_len i) 2 && (match t with | .int => Nat.beq (am_x i) 20 | .boolean => Nat.beq (am_x i) 21 | _ => false)
    | .anewarray k => Nat.beq (am_len i) 3 && (Nat.ble 22 (am_x i) && (Nat.ble (am_x i) 24 && am_lk (am_z i) (.classLink (am_nm m).cls k (am_rc (am_x i)))))
    | .new k => Nat.beq (am_len i) 3 && (match am_cl[am_x i]? with | some q => Nat.beq (am_y i) q.2.2 && am_lk (am_z i) (.classLink (am_nm m).cls k q.1) | none => false)
    | .invokespecial k => Nat.beq (am_len i) 3 && am_lk (am_z i) (.methodLink (am_nm m).cls k objectInit)
    | .invokestatic k => Nat.beq (am_len i) 3 && (match am_w i with | 0 => am_lk (am_z i) (.methodLink (am_nm m).cls k arraycopyName) | 1 => am_lk (am_z i) (.methodLink (am_nm m).cls k Lib.Math.max.name) | 2 => am_lk (am_z i) (.methodLink (am_nm m).cls k Lib.Math.min.name) | _ => am_lk (am_z i) (.methodLink (am_nm m).cls k Lib.Math.abs.name))
    | .athrow => true
    | .checkcast _ => true
    | _ => Nat.beq (am_len i) 1)
  | 1 => (match i.1 with
    | .nop => Nat.beq (am_pc m (am_x i)) pc
    | .goto o => decide (decode (am_cd m) pc = .ok (i.1, 3)) && decide ((pc : Int) + o = (am_pc m (am_x i) : Int))
    | .ifCond _ o => decide (decode (am_cd m) pc = .ok (i.1, 3)) && (decide ((pc : Int) + o = (am_pc m (am_x i) : Int)) && Nat.beq (am_pc m (am_y i)) (pc + 3))
    | .if_icmp _ o => decide (decode (am_cd m) pc = .ok (i.1, 3)) && (decide ((pc : Int) + o = (am_pc m (am_x i) : Int)) && Nat.beq (am_pc m (am_y i)) (pc + 3))
    | .ifnonnull o => decide (decode (am_cd m) pc = .ok (i.1, 3)) && (decide ((pc : Int) + o = (am_pc m (am_x i) : Int)) && Nat.beq (am_pc m (am_y i)) (pc + 3))
    | .tableswitch d lo hi os => decide (decode (am_cd m) pc = .ok (i.1, am_len i)) && (decide ((pc : Int) + d = (am_pc m (am_y i) : Int)) && (decide (lo + (os.toList.length : Int) = hi + 1) && (decide (lo ≤ hi) && am_swl m pc (am_tb i) (am_tbl lo os.toList) (am_pc m))))
    | .lookupswitch d ps => decide (decode (am_cd m) pc = .ok (i.1, am_len i)) && (decide ((pc : Int) + d = (am_pc m (am_y i) : Int)) && ((ps.toList.zip (ps.toList.drop 1)).all (fun (a, next) => a.1 < next.1) && am_swl m pc (am_tb i) ps.toList (am_pc m)))
    | _ => false)
  | 2 => decide (decode (am_cd m) pc = .ok (i.1, 3)) && (Nat.ble 217 (am_x i) || (Nat.beq (am_pc m (am_y i)) (pc + 3) && (match i.1 with
    | .invokevirtual k => am_cw (am_nm m).cls k i 0
    | .invokestatic k => am_cw (am_nm m).cls k i 1
    | .invokespecial k => am_cw (am_nm m).cls k i 2
    | _ => false)))
  | _ => decide (decode (am_cd m) pc = .ok (i.1, 1)) && (match i.1 with
    | .ireturn => (match am_rt m with | some .int => Nat.beq (am_w i) 0 | some .boolean => Nat.beq (am_w i) 1 | some .char => Nat.beq (am_w i) 2 | some .byte => Nat.beq (am_w i) 3 | _ => false)
    | .lreturn => decide (am_rt m = some .long)
    | .areturn => (match am_rt m with | some (.object _) => true | some (.array _) => true | _ => false)
    | .return_ => decide (am_rt m = none)
    | _ => false)
noncomputable def am_oks (m : Nat) : Nat → List am_P → Bool
  | _, [] => true
  | pc, i :: is => am_chk m pc i && am_oks m (pc + am_len i) is
noncomputable def am_okm (m : Nat) : Bool := (List.range (am_pg.getD m []).length).all (fun b => am_oks m (am_pc m b) (am_blk m b))
theorem am_mem_W {k j : Nat} {w : Cond} (h : (am_tp k)[j]? = some w) (g : goodWord w = true) : w ∈ am_W := List.mem_filter.mpr ⟨am_tp_in (List.mem_of_getElem? h), g⟩
