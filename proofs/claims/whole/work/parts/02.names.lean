-- class names by number (0 .. 10 have objects), fields, types
def abR : Nat → String := fun k => match k with
  | 0 => "CelSheet$Album"
  | 1 => "CelSheet$Camera"
  | 2 => "CelSheet$History"
  | 3 => "CelSheet$Line"
  | 4 => "CelSheet$Marker"
  | 5 => "CelSheet$Parser"
  | 6 => "CelSheet$Scene"
  | 7 => "CelSheet$Sheet"
  | 8 => "CelSheet$Tape"
  | 9 => "CelSheet"
  | 10 => "CelSheetModel"
  | 11 => "CelSheet$Rows"
  | 12 => "CelSheetLaw"
  | 13 => "java/lang/Long"
  | 14 => "java/lang/Math"
  | 15 => "java/lang/String"
  | 16 => "java/lang/StringLatin1"
  | 17 => "java/lang/StringUTF16"
  | 18 => "java/lang/System"
  | 19 => "java/util/Arrays"
  | _ => "jdk/internal/util/Preconditions"
def abT0 : u_T := fun k => match k with
  | 0 => ("CelSheet$Album", "papers", "[[J", true)
  | 1 => ("CelSheet$Album", "first", "[I", true)
  | 2 => ("CelSheet$Album", "next", "[I", true)
  | _ => ("CelSheet$Album", "count", "I", false)
def abT1 : u_T := fun k => match k with
  | 0 => ("CelSheet$Camera", "paper", "[J", true)
  | 1 => ("CelSheet$Camera", "album", "LCelSheet$Album;", true)
  | 2 => ("CelSheet$Camera", "known", "[I", true)
  | 3 => ("CelSheet$Camera", "counted", "[I", true)
  | 4 => ("CelSheet$Camera", "round", "I", false)
  | 5 => ("CelSheet$Camera", "scene", "LCelSheet$Scene;", false)
  | 6 => ("CelSheet$Camera", "sheet", "LCelSheet$Sheet;", false)
  | _ => ("CelSheet$Camera", "tried", "I", false)
def abT2 : u_T := fun k => match k with
  | 0 => ("CelSheet$History", "former", "[LCelSheet$Sheet;", true)
  | 1 => ("CelSheet$History", "next", "I", false)
  | _ => ("CelSheet$History", "count", "I", false)
def abT3 : u_T := fun k => match k with
  | 0 => ("CelSheet$Line", "drawings", "[I", true)
  | 1 => ("CelSheet$Line", "lengths", "[I", true)
  | 2 => ("CelSheet$Line", "firsts", "[I", true)
  | 3 => ("CelSheet$Line", "swings", "[Z", true)
  | 4 => ("CelSheet$Line", "frames", "I", false)
  | 5 => ("CelSheet$Line", "on", "I", false)
  | 6 => ("CelSheet$Line", "count", "I", false)
  | 7 => ("CelSheet$Line", "total", "I", false)
  | 8 => ("CelSheet$Line", "parts", "I", false)
  | 9 => ("CelSheet$Line", "open", "I", false)
  | _ => ("CelSheet$Line", "hasPart", "Z", false)
def abT4 : u_T := fun k => match k with
  | 0 => ("CelSheet$Marker", "drawings", "[I", true)
  | 1 => ("CelSheet$Marker", "lengths", "[I", true)
  | 2 => ("CelSheet$Marker", "count", "I", false)
  | 3 => ("CelSheet$Marker", "runs", "[I", true)
  | 4 => ("CelSheet$Marker", "mirrors", "[I", true)
  | 5 => ("CelSheet$Marker", "echoes", "[[I", true)
  | _ => ("CelSheet$Marker", "least", "[[I", true)
def abT5 : u_T := fun k => match k with
  | 0 => ("CelSheet$Parser", "tape", "LCelSheet$Tape;", true)
  | 1 => ("CelSheet$Parser", "line", "LCelSheet$Line;", true)
  | 2 => ("CelSheet$Parser", "numbers", "[I", true)
  | 3 => ("CelSheet$Parser", "scene", "LCelSheet$Scene;", false)
  | 4 => ("CelSheet$Parser", "owner", "I", false)
  | 5 => ("CelSheet$Parser", "faultKind", "I", false)
  | _ => ("CelSheet$Parser", "faultPlace", "I", false)
def abT6 : u_T := fun k => match k with
  | 0 => ("CelSheet$Scene", "frames", "I", false)
  | 1 => ("CelSheet$Scene", "statements", "I", false)
  | 2 => ("CelSheet$Scene", "layers", "I", false)
  | 3 => ("CelSheet$Scene", "boxes", "I", false)
  | 4 => ("CelSheet$Scene", "slides", "I", false)
  | 5 => ("CelSheet$Scene", "hides", "I", false)
  | 6 => ("CelSheet$Scene", "on", "[I", true)
  | 7 => ("CelSheet$Scene", "letters", "[I", true)
  | 8 => ("CelSheet$Scene", "names", "[[I", true)
  | 9 => ("CelSheet$Scene", "rows", "[[I", true)
  | 10 => ("CelSheet$Scene", "right", "[[I", true)
  | 11 => ("CelSheet$Scene", "down", "[[I", true)
  | 12 => ("CelSheet$Scene", "covers", "[[I", true)
  | 13 => ("CelSheet$Scene", "boxFacts", "[[I", true)
  | 14 => ("CelSheet$Scene", "firstBox", "[[I", true)
  | _ => ("CelSheet$Scene", "nextBox", "[I", true)
def abT7 : u_T := fun k => match k with
  | 0 => ("CelSheet$Sheet", "rows", "[[I", true)
  | _ => ("CelSheet$Sheet", "stack", "[I", true)
def abT8 : u_T := fun k => match k with
  | 0 => ("CelSheet$Tape", "signs", "[B", true)
  | 1 => ("CelSheet$Tape", "length", "I", false)
  | 2 => ("CelSheet$Tape", "kind", "I", false)
  | 3 => ("CelSheet$Tape", "begin", "I", false)
  | _ => ("CelSheet$Tape", "stop", "I", false)
def abT9 : u_T := fun k => match k with
  | 0 => ("CelSheet", "tape", "LCelSheet$Tape;", true)
  | 1 => ("CelSheet", "parser", "LCelSheet$Parser;", true)
  | 2 => ("CelSheet", "sheet", "LCelSheet$Sheet;", true)
  | 3 => ("CelSheet", "history", "LCelSheet$History;", true)
  | 4 => ("CelSheet", "kept", "[LCelSheet$Sheet;", true)
  | 5 => ("CelSheet", "isKept", "[Z", true)
  | 6 => ("CelSheet", "camera", "LCelSheet$Camera;", true)
  | 7 => ("CelSheet", "marker", "LCelSheet$Marker;", true)
  | 8 => ("CelSheet", "current", "LCelSheet$Scene;", false)
  | 9 => ("CelSheet", "draft", "LCelSheet$Scene;", false)
  | 10 => ("CelSheet", "spare", "[I", true)
  | 11 => ("CelSheet", "fewestMarks", "[I", true)
  | 12 => ("CelSheet", "pictures", "[I", true)
  | 13 => ("CelSheet", "takes", "I", false)
  | _ => ("CelSheet", "picturesStand", "Z", false)
def abT10 : u_T := fun k => match k with
  | 0 => ("CelSheetModel", "scene", "[I", true)
  | 1 => ("CelSheetModel", "sheets", "[I", true)
  | 2 => ("CelSheetModel", "isKept", "[Z", true)
  | 3 => ("CelSheetModel", "acts", "I", false)
  | 4 => ("CelSheetModel", "tape", "[I", true)
  | 5 => ("CelSheetModel", "taped", "I", false)
  | 6 => ("CelSheetModel", "faultKind", "I", false)
  | 7 => ("CelSheetModel", "faultPlace", "I", false)
  | 8 => ("CelSheetModel", "size", "I", false)
  | 9 => ("CelSheetModel", "here", "I", false)
  | 10 => ("CelSheetModel", "begun", "I", false)
  | 11 => ("CelSheetModel", "wrong", "I", false)
  | 12 => ("CelSheetModel", "wrongAt", "I", false)
  | 13 => ("CelSheetModel", "ownLetters", "[I", true)
  | 14 => ("CelSheetModel", "holdOf", "[I", true)
  | 15 => ("CelSheetModel", "holdLong", "[I", true)
  | 16 => ("CelSheetModel", "holds", "I", false)
  | 17 => ("CelSheetModel", "bracketAt", "[I", true)
  | 18 => ("CelSheetModel", "bracketSwings", "[Z", true)
  | 19 => ("CelSheetModel", "brackets", "I", false)
  | 20 => ("CelSheetModel", "parts", "I", false)
  | 21 => ("CelSheetModel", "cycleBegin", "I", false)
  | 22 => ("CelSheetModel", "cyclePeriod", "I", false)
  | 23 => ("CelSheetModel", "rowOf", "[I", true)
  | 24 => ("CelSheetModel", "rowLong", "[I", true)
  | 25 => ("CelSheetModel", "rowMany", "I", false)
  | 26 => ("CelSheetModel", "fewest", "[I", true)
  | 27 => ("CelSheetModel", "inks", "[I", true)
  | 28 => ("CelSheetModel", "tops", "[I", true)
  | 29 => ("CelSheetModel", "stillMany", "I", false)
  | 30 => ("CelSheetModel", "stillFirst", "I", false)
  | 31 => ("CelSheetModel", "bestTurn", "I", false)
  | _ => ("CelSheetModel", "bestTakes", "I", false)
def abTy : Nat → Nat → FieldType := fun c k => match c, k with
  | 0, 0 => .array (.array (.long))
  | 0, 1 => .array (.int)
  | 0, 2 => .array (.int)
  | 0, 3 => .int
  | 1, 0 => .array (.long)
  | 1, 1 => .object "CelSheet$Album"
  | 1, 2 => .array (.int)
  | 1, 3 => .array (.int)
  | 1, 4 => .int
  | 1, 5 => .object "CelSheet$Scene"
  | 1, 6 => .object "CelSheet$Sheet"
  | 1, 7 => .int
  | 2, 0 => .array (.object "CelSheet$Sheet")
  | 2, 1 => .int
  | 2, 2 => .int
  | 3, 0 => .array (.int)
  | 3, 1 => .array (.int)
  | 3, 2 => .array (.int)
  | 3, 3 => .array (.boolean)
  | 3, 4 => .int
  | 3, 5 => .int
  | 3, 6 => .int
  | 3, 7 => .int
  | 3, 8 => .int
  | 3, 9 => .int
  | 3, 10 => .boolean
  | 4, 0 => .array (.int)
  | 4, 1 => .array (.int)
  | 4, 2 => .int
  | 4, 3 => .array (.int)
  | 4, 4 => .array (.int)
  | 4, 5 => .array (.array (.int))
  | 4, 6 => .array (.array (.int))
  | 5, 0 => .object "CelSheet$Tape"
  | 5, 1 => .object "CelSheet$Line"
  | 5, 2 => .array (.int)
  | 5, 3 => .object "CelSheet$Scene"
  | 5, 4 => .int
  | 5, 5 => .int
  | 5, 6 => .int
  | 6, 0 => .int
  | 6, 1 => .int
  | 6, 2 => .int
  | 6, 3 => .int
  | 6, 4 => .int
  | 6, 5 => .int
  | 6, 6 => .array (.int)
  | 6, 7 => .array (.int)
  | 6, 8 => .array (.array (.int))
  | 6, 9 => .array (.array (.int))
  | 6, 10 => .array (.array (.int))
  | 6, 11 => .array (.array (.int))
  | 6, 12 => .array (.array (.int))
  | 6, 13 => .array (.array (.int))
  | 6, 14 => .array (.array (.int))
  | 6, 15 => .array (.int)
  | 7, 0 => .array (.array (.int))
  | 7, 1 => .array (.int)
  | 8, 0 => .array (.byte)
  | 8, 1 => .int
  | 8, 2 => .int
  | 8, 3 => .int
  | 8, 4 => .int
  | 9, 0 => .object "CelSheet$Tape"
  | 9, 1 => .object "CelSheet$Parser"
  | 9, 2 => .object "CelSheet$Sheet"
  | 9, 3 => .object "CelSheet$History"
  | 9, 4 => .array (.object "CelSheet$Sheet")
  | 9, 5 => .array (.boolean)
  | 9, 6 => .object "CelSheet$Camera"
  | 9, 7 => .object "CelSheet$Marker"
  | 9, 8 => .object "CelSheet$Scene"
  | 9, 9 => .object "CelSheet$Scene"
  | 9, 10 => .array (.int)
  | 9, 11 => .array (.int)
  | 9, 12 => .array (.int)
  | 9, 13 => .int
  | 9, 14 => .boolean
  | 10, 0 => .array (.int)
  | 10, 1 => .array (.int)
  | 10, 2 => .array (.boolean)
  | 10, 3 => .int
  | 10, 4 => .array (.int)
  | 10, 5 => .int
  | 10, 6 => .int
  | 10, 7 => .int
  | 10, 8 => .int
  | 10, 9 => .int
  | 10, 10 => .int
  | 10, 11 => .int
  | 10, 12 => .int
  | 10, 13 => .array (.int)
  | 10, 14 => .array (.int)
  | 10, 15 => .array (.int)
  | 10, 16 => .int
  | 10, 17 => .array (.int)
  | 10, 18 => .array (.boolean)
  | 10, 19 => .int
  | 10, 20 => .int
  | 10, 21 => .int
  | 10, 22 => .int
  | 10, 23 => .array (.int)
  | 10, 24 => .array (.int)
  | 10, 25 => .int
  | 10, 26 => .array (.int)
  | 10, 27 => .array (.int)
  | 10, 28 => .array (.int)
  | 10, 29 => .int
  | 10, 30 => .int
  | 10, 31 => .int
  | 10, 32 => .int
  | _, _ => .int
/-- what a field is: 0 an int, 1 a boolean, 2 a reference -/
def abFt (c k : Nat) : Nat := match abTy c k with
  | .int => 0
  | .boolean => 1
  | _ => 2
abbrev abCl : List vw_C := [("CelSheet$Album", abT0, 4), ("CelSheet$Camera", abT1, 8), ("CelSheet$History", abT2, 3), ("CelSheet$Line", abT3, 11), ("CelSheet$Marker", abT4, 7), ("CelSheet$Parser", abT5, 7), ("CelSheet$Scene", abT6, 16), ("CelSheet$Sheet", abT7, 2), ("CelSheet$Tape", abT8, 5), ("CelSheet", abT9, 15), ("CelSheetModel", abT10, 33)]
def abN (c : Nat) : Nat := ((abCl[c]?).map (fun r => r.2.2)).getD 0
-- methods by number: name, bytes, locals, what it returns, its class
abbrev abMt : Type := MethodName × (ByteArray × (Nat × (Option FieldType × (Nat × (Nat × Nat)))))
def abm_0 : abMt := (⟨"CelSheet$Album", "<init>", "(I)V"⟩, (prog_2_method_1_code, (2, (none, (0, (2, 1))))))
def abm_1 : abMt := (⟨"CelSheet$Album", "clear", "()V"⟩, (prog_2_method_2_code, (1, (none, (0, (1, 0))))))
def abm_2 : abMt := (⟨"CelSheet$Album", "numberOf", "([J)I"⟩, (prog_2_method_3_code, (5, ((some .int), (0, (1, 1))))))
def abm_3 : abMt := (⟨"CelSheet$Album", "isLike", "(I[J)Z"⟩, (prog_2_method_4_code, (4, ((some .boolean), (0, (1, 2))))))
def abm_4 : abMt := (⟨"CelSheet$Album", "chainOf", "([J)I"⟩, (prog_2_method_5_code, (4, ((some .int), (0, (0, 1))))))
def abm_5 : abMt := (⟨"CelSheet$Camera", "<init>", "()V"⟩, (prog_3_method_1_code, (1, (none, (1, (2, 0))))))
def abm_6 : abMt := (⟨"CelSheet$Camera", "aim", "(LCelSheet$Scene;LCelSheet$Sheet;I)V"⟩, (prog_3_method_2_code, (4, (none, (1, (1, 3))))))
def abm_7 : abMt := (⟨"CelSheet$Camera", "compose", "(IIZ)V"⟩, (prog_3_method_3_code, (7, (none, (1, (1, 3))))))
def abm_8 : abMt := (⟨"CelSheet$Camera", "paintDrawing", "(IIIZ)V"⟩, (prog_3_method_4_code, (8, (none, (1, (1, 4))))))
def abm_9 : abMt := (⟨"CelSheet$Camera", "paintBox", "([IIII)V"⟩, (prog_3_method_5_code, (13, (none, (1, (1, 4))))))
def abm_10 : abMt := (⟨"CelSheet$Camera", "valueAt", "(II)I"⟩, (prog_3_method_6_code, (3, ((some .int), (1, (1, 2))))))
def abm_11 : abMt := (⟨"CelSheet$Camera", "placesWith", "(I)I"⟩, (prog_3_method_7_code, (5, ((some .int), (1, (1, 1))))))
def abm_12 : abMt := (⟨"CelSheet$Camera", "pictureOf", "(II)I"⟩, (prog_3_method_8_code, (4, ((some .int), (1, (1, 2))))))
def abm_13 : abMt := (⟨"CelSheet$Camera", "countTakes", "([II)I"⟩, (prog_3_method_9_code, (7, ((some .int), (1, (1, 2))))))
def abm_14 : abMt := (⟨"CelSheet$History", "<init>", "()V"⟩, (prog_4_method_1_code, (2, (none, (2, (2, 0))))))
def abm_15 : abMt := (⟨"CelSheet$History", "clear", "()V"⟩, (prog_4_method_2_code, (1, (none, (2, (1, 0))))))
def abm_16 : abMt := (⟨"CelSheet$History", "remember", "(LCelSheet$Sheet;)V"⟩, (prog_4_method_3_code, (2, (none, (2, (1, 1))))))
def abm_17 : abMt := (⟨"CelSheet$History", "takeBack", "(LCelSheet$Sheet;)V"⟩, (prog_4_method_4_code, (2, (none, (2, (1, 1))))))
def abm_18 : abMt := (⟨"CelSheet$Line", "<init>", "()V"⟩, (prog_5_method_1_code, (1, (none, (3, (2, 0))))))
def abm_19 : abMt := (⟨"CelSheet$Line", "start", "(II)V"⟩, (prog_5_method_2_code, (3, (none, (3, (1, 2))))))
def abm_20 : abMt := (⟨"CelSheet$Line", "add", "(II)V"⟩, (prog_5_method_3_code, (3, (none, (3, (1, 2))))))
def abm_21 : abMt := (⟨"CelSheet$Line", "addRun", "(III)V"⟩, (prog_5_method_4_code, (6, (none, (3, (1, 3))))))
def abm_22 : abMt := (⟨"CelSheet$Line", "openGroup", "(Z)V"⟩, (prog_5_method_5_code, (2, (none, (3, (1, 1))))))
def abm_23 : abMt := (⟨"CelSheet$Line", "closeGroup", "(I)V"⟩, (prog_5_method_6_code, (6, (none, (3, (1, 1))))))
def abm_24 : abMt := (⟨"CelSheet$Line", "layOn", "([I)I"⟩, (prog_5_method_7_code, (5, ((some .int), (3, (1, 1))))))
def abm_25 : abMt := (⟨"CelSheet$Marker", "<init>", "()V"⟩, (prog_6_method_1_code, (1, (none, (4, (2, 0))))))
def abm_26 : abMt := (⟨"CelSheet$Marker", "fewest", "([II)I"⟩, (prog_6_method_2_code, (5, ((some .int), (4, (1, 2))))))
def abm_27 : abMt := (⟨"CelSheet$Marker", "split", "([II)V"⟩, (prog_6_method_3_code, (4, (none, (4, (1, 2))))))
def abm_28 : abMt := (⟨"CelSheet$Marker", "fewestOf", "(II)I"⟩, (prog_6_method_4_code, (6, ((some .int), (4, (1, 2))))))
def abm_29 : abMt := (⟨"CelSheet$Marker", "areAlike", "(II)Z"⟩, (prog_6_method_5_code, (3, ((some .boolean), (4, (1, 2))))))
def abm_30 : abMt := (⟨"CelSheet$Marker", "measureRuns", "()V"⟩, (prog_6_method_6_code, (2, (none, (4, (1, 0))))))
def abm_31 : abMt := (⟨"CelSheet$Marker", "runLength", "(II)I"⟩, (prog_6_method_7_code, (4, ((some .int), (4, (1, 2))))))
def abm_32 : abMt := (⟨"CelSheet$Marker", "measureMirrors", "()V"⟩, (prog_6_method_8_code, (3, (none, (4, (1, 0))))))
def abm_33 : abMt := (⟨"CelSheet$Marker", "measureEchoes", "()V"⟩, (prog_6_method_9_code, (5, (none, (4, (1, 0))))))
def abm_34 : abMt := (⟨"CelSheet$Parser", "<init>", "(LCelSheet$Tape;)V"⟩, (prog_7_method_1_code, (2, (none, (5, (2, 1))))))
def abm_35 : abMt := (⟨"CelSheet$Parser", "parse", "(LCelSheet$Scene;)Z"⟩, (prog_7_method_2_code, (4, ((some .boolean), (5, (1, 1))))))
def abm_36 : abMt := (⟨"CelSheet$Parser", "startStatement", "()I"⟩, (prog_7_method_3_code, (2, ((some .int), (5, (1, 0))))))
def abm_37 : abMt := (⟨"CelSheet$Parser", "nextStatement", "()I"⟩, (prog_7_method_4_code, (1, ((some .int), (5, (1, 0))))))
def abm_38 : abMt := (⟨"CelSheet$Parser", "isFull", "(I)Z"⟩, (prog_7_method_5_code, (2, ((some .boolean), (5, (1, 1))))))
def abm_39 : abMt := (⟨"CelSheet$Parser", "endStatement", "()Z"⟩, (prog_7_method_6_code, (1, ((some .boolean), (5, (1, 0))))))
def abm_40 : abMt := (⟨"CelSheet$Parser", "readFrames", "()Z"⟩, (prog_7_method_7_code, (1, ((some .boolean), (5, (1, 0))))))
def abm_41 : abMt := (⟨"CelSheet$Parser", "readLayer", "()Z"⟩, (prog_7_method_8_code, (3, ((some .boolean), (5, (1, 0))))))
def abm_42 : abMt := (⟨"CelSheet$Parser", "readEnding", "()I"⟩, (prog_7_method_9_code, (1, ((some .int), (5, (1, 0))))))
def abm_43 : abMt := (⟨"CelSheet$Parser", "readLine", "()Z"⟩, (prog_7_method_10_code, (3, ((some .boolean), (5, (1, 0))))))
def abm_44 : abMt := (⟨"CelSheet$Parser", "readHolds", "()Z"⟩, (prog_7_method_11_code, (3, ((some .boolean), (5, (1, 0))))))
def abm_45 : abMt := (⟨"CelSheet$Parser", "readOpening", "()Z"⟩, (prog_7_method_12_code, (3, ((some .boolean), (5, (1, 0))))))
def abm_46 : abMt := (⟨"CelSheet$Parser", "readClosing", "()Z"⟩, (prog_7_method_13_code, (1, ((some .boolean), (5, (1, 0))))))
def abm_47 : abMt := (⟨"CelSheet$Parser", "readCel", "()Z"⟩, (prog_7_method_14_code, (2, ((some .boolean), (5, (1, 0))))))
def abm_48 : abMt := (⟨"CelSheet$Parser", "readSlide", "()Z"⟩, (prog_7_method_15_code, (3, ((some .boolean), (5, (1, 0))))))
def abm_49 : abMt := (⟨"CelSheet$Parser", "readHide", "()Z"⟩, (prog_7_method_16_code, (1, ((some .boolean), (5, (1, 0))))))
def abm_50 : abMt := (⟨"CelSheet$Parser", "readSpan", "()Z"⟩, (prog_7_method_17_code, (1, ((some .boolean), (5, (1, 0))))))
def abm_51 : abMt := (⟨"CelSheet$Parser", "readWay", "(Ljava/lang/String;Ljava/lang/String;)I"⟩, (prog_7_method_18_code, (3, ((some .int), (5, (1, 2))))))
def abm_52 : abMt := (⟨"CelSheet$Parser", "needOwner", "()Z"⟩, (prog_7_method_19_code, (1, ((some .boolean), (5, (1, 0))))))
def abm_53 : abMt := (⟨"CelSheet$Parser", "needNumber", "(III)Z"⟩, (prog_7_method_20_code, (5, ((some .boolean), (5, (1, 3))))))
def abm_54 : abMt := (⟨"CelSheet$Parser", "needWord", "(Ljava/lang/String;)Z"⟩, (prog_7_method_21_code, (2, ((some .boolean), (5, (1, 1))))))
def abm_55 : abMt := (⟨"CelSheet$Parser", "needSign", "(C)Z"⟩, (prog_7_method_22_code, (2, ((some .boolean), (5, (1, 1))))))
def abm_56 : abMt := (⟨"CelSheet$Parser", "fail", "(II)Z"⟩, (prog_7_method_23_code, (3, ((some .boolean), (5, (1, 2))))))
def abm_57 : abMt := (⟨"CelSheet$Scene", "<init>", "()V"⟩, (prog_9_method_1_code, (1, (none, (6, (2, 0))))))
def abm_58 : abMt := (⟨"CelSheet$Scene", "clear", "()V"⟩, (prog_9_method_2_code, (1, (none, (6, (1, 0))))))
def abm_59 : abMt := (⟨"CelSheet$Scene", "hasLayer", "(I)Z"⟩, (prog_9_method_3_code, (2, ((some .boolean), (6, (1, 1))))))
def abm_60 : abMt := (⟨"CelSheet$Scene", "hasFrame", "(I)Z"⟩, (prog_9_method_4_code, (2, ((some .boolean), (6, (1, 1))))))
def abm_61 : abMt := (⟨"CelSheet$Scene", "layerWithName", "([BII)I"⟩, (prog_9_method_5_code, (5, ((some .int), (6, (1, 3))))))
def abm_62 : abMt := (⟨"CelSheet$Scene", "isSpelt", "(I[BI)Z"⟩, (prog_9_method_6_code, (5, ((some .boolean), (6, (1, 3))))))
def abm_63 : abMt := (⟨"CelSheet$Scene", "addLayer", "([BIILCelSheet$Line;I)V"⟩, (prog_9_method_7_code, (8, (none, (6, (1, 5))))))
def abm_64 : abMt := (⟨"CelSheet$Scene", "fillBehind", "([III)V"⟩, (prog_9_method_8_code, (6, (none, (6, (1, 3))))))
def abm_65 : abMt := (⟨"CelSheet$Scene", "addBox", "([I)V"⟩, (prog_9_method_9_code, (7, (none, (6, (1, 1))))))
def abm_66 : abMt := (⟨"CelSheet$Scene", "addSlide", "(IIIII)V"⟩, (prog_9_method_10_code, (8, (none, (6, (1, 5))))))
def abm_67 : abMt := (⟨"CelSheet$Scene", "addHide", "(III)V"⟩, (prog_9_method_11_code, (5, (none, (6, (1, 3))))))
def abm_68 : abMt := (⟨"CelSheet$Sheet", "<init>", "()V"⟩, (prog_10_method_1_code, (1, (none, (7, (2, 0))))))
def abm_69 : abMt := (⟨"CelSheet$Sheet", "startAs", "(LCelSheet$Scene;)V"⟩, (prog_10_method_2_code, (3, (none, (7, (1, 1))))))
def abm_70 : abMt := (⟨"CelSheet$Sheet", "copyFrom", "(LCelSheet$Sheet;)V"⟩, (prog_10_method_3_code, (3, (none, (7, (1, 1))))))
def abm_71 : abMt := (⟨"CelSheet$Sheet", "placeOf", "(I)I"⟩, (prog_10_method_4_code, (3, ((some .int), (7, (1, 1))))))
def abm_72 : abMt := (⟨"CelSheet$Tape", "<init>", "()V"⟩, (prog_11_method_1_code, (1, (none, (8, (2, 0))))))
def abm_73 : abMt := (⟨"CelSheet$Tape", "append", "(I)V"⟩, (prog_11_method_2_code, (3, (none, (8, (1, 1))))))
def abm_74 : abMt := (⟨"CelSheet$Tape", "start", "()V"⟩, (prog_11_method_3_code, (1, (none, (8, (1, 0))))))
def abm_75 : abMt := (⟨"CelSheet$Tape", "advance", "()V"⟩, (prog_11_method_4_code, (1, (none, (8, (1, 0))))))
def abm_76 : abMt := (⟨"CelSheet$Tape", "isSign", "(C)Z"⟩, (prog_11_method_5_code, (2, ((some .boolean), (8, (1, 1))))))
def abm_77 : abMt := (⟨"CelSheet$Tape", "isWord", "(Ljava/lang/String;)Z"⟩, (prog_11_method_6_code, (3, ((some .boolean), (8, (1, 1))))))
def abm_78 : abMt := (⟨"CelSheet$Tape", "takeSign", "(C)Z"⟩, (prog_11_method_7_code, (2, ((some .boolean), (8, (1, 1))))))
def abm_79 : abMt := (⟨"CelSheet$Tape", "takeWord", "(Ljava/lang/String;)Z"⟩, (prog_11_method_8_code, (2, ((some .boolean), (8, (1, 1))))))
def abm_80 : abMt := (⟨"CelSheet$Tape", "isName", "()Z"⟩, (prog_11_method_9_code, (1, ((some .boolean), (8, (1, 0))))))
def abm_81 : abMt := (⟨"CelSheet$Tape", "isOfTheLanguage", "()Z"⟩, (prog_11_method_10_code, (4, ((some .boolean), (8, (1, 0))))))
def abm_82 : abMt := (⟨"CelSheet$Tape", "number", "()I"⟩, (prog_11_method_11_code, (3, ((some .int), (8, (1, 0))))))
def abm_83 : abMt := (⟨"CelSheet", "<init>", "()V"⟩, (prog_1_method_1_code, (2, (none, (9, (2, 0))))))
def abm_84 : abMt := (⟨"CelSheet", "feed", "(IIIII)I"⟩, (prog_1_method_2_code, (6, ((some .int), (9, (1, 5))))))
def abm_85 : abMt := (⟨"CelSheet", "end", "(I)Z"⟩, (prog_1_method_3_code, (2, ((some .boolean), (9, (1, 1))))))
def abm_86 : abMt := (⟨"CelSheet", "scene", "()I"⟩, (prog_1_method_4_code, (4, ((some .int), (9, (1, 0))))))
def abm_87 : abMt := (⟨"CelSheet", "fault", "(I)I"⟩, (prog_1_method_5_code, (2, ((some .int), (9, (1, 1))))))
def abm_88 : abMt := (⟨"CelSheet", "named", "()I"⟩, (prog_1_method_6_code, (4, ((some .int), (9, (1, 0))))))
def abm_89 : abMt := (⟨"CelSheet", "look", "(I)I"⟩, (prog_1_method_7_code, (2, ((some .int), (9, (1, 1))))))
def abm_90 : abMt := (⟨"CelSheet", "layer", "(II)I"⟩, (prog_1_method_8_code, (4, ((some .int), (9, (1, 2))))))
def abm_91 : abMt := (⟨"CelSheet", "spelt", "(II)I"⟩, (prog_1_method_9_code, (3, ((some .int), (9, (1, 2))))))
def abm_92 : abMt := (⟨"CelSheet", "box", "(II)I"⟩, (prog_1_method_10_code, (3, ((some .int), (9, (1, 2))))))
def abm_93 : abMt := (⟨"CelSheet", "at", "(II)I"⟩, (prog_1_method_11_code, (3, ((some .int), (9, (1, 2))))))
def abm_94 : abMt := (⟨"CelSheet", "told", "(II)I"⟩, (prog_1_method_12_code, (3, ((some .int), (9, (1, 2))))))
def abm_95 : abMt := (⟨"CelSheet", "hold", "(III)I"⟩, (prog_1_method_13_code, (6, ((some .int), (9, (1, 3))))))
def abm_96 : abMt := (⟨"CelSheet", "find", "(III)I"⟩, (prog_1_method_14_code, (6, ((some .int), (9, (1, 3))))))
def abm_97 : abMt := (⟨"CelSheet", "cycle", "(II)I"⟩, (prog_1_method_15_code, (6, ((some .int), (9, (1, 2))))))
def abm_98 : abMt := (⟨"CelSheet", "marks", "(I)I"⟩, (prog_1_method_16_code, (2, ((some .int), (9, (1, 1))))))
def abm_99 : abMt := (⟨"CelSheet", "shift", "(III)I"⟩, (prog_1_method_17_code, (4, ((some .int), (9, (1, 3))))))
def abm_100 : abMt := (⟨"CelSheet", "hidden", "(II)I"⟩, (prog_1_method_18_code, (3, ((some .int), (9, (1, 2))))))
def abm_101 : abMt := (⟨"CelSheet", "cell", "(III)I"⟩, (prog_1_method_19_code, (4, ((some .int), (9, (1, 3))))))
def abm_102 : abMt := (⟨"CelSheet", "top", "(III)I"⟩, (prog_1_method_20_code, (4, ((some .int), (9, (1, 3))))))
def abm_103 : abMt := (⟨"CelSheet", "ink", "(II)I"⟩, (prog_1_method_21_code, (3, ((some .int), (9, (1, 2))))))
def abm_104 : abMt := (⟨"CelSheet", "seen", "(II)I"⟩, (prog_1_method_22_code, (3, ((some .int), (9, (1, 2))))))
def abm_105 : abMt := (⟨"CelSheet", "same", "(II)I"⟩, (prog_1_method_23_code, (3, ((some .int), (9, (1, 2))))))
def abm_106 : abMt := (⟨"CelSheet", "like", "(II)I"⟩, (prog_1_method_24_code, (3, ((some .int), (9, (1, 2))))))
def abm_107 : abMt := (⟨"CelSheet", "take", "(I)I"⟩, (prog_1_method_25_code, (2, ((some .int), (9, (1, 1))))))
def abm_108 : abMt := (⟨"CelSheet", "still", "(I)I"⟩, (prog_1_method_26_code, (6, ((some .int), (9, (1, 1))))))
def abm_109 : abMt := (⟨"CelSheet", "changes", "(I)I"⟩, (prog_1_method_27_code, (5, ((some .int), (9, (1, 1))))))
def abm_110 : abMt := (⟨"CelSheet", "saved", "(I)I"⟩, (prog_1_method_28_code, (4, ((some .int), (9, (1, 1))))))
def abm_111 : abMt := (⟨"CelSheet", "turned", "(II)I"⟩, (prog_1_method_29_code, (3, ((some .int), (9, (1, 2))))))
def abm_112 : abMt := (⟨"CelSheet", "best", "(II)I"⟩, (prog_1_method_30_code, (7, ((some .int), (9, (1, 2))))))
def abm_113 : abMt := (⟨"CelSheet", "without", "(I)I"⟩, (prog_1_method_31_code, (2, ((some .int), (9, (1, 1))))))
def abm_114 : abMt := (⟨"CelSheet", "doubled", "(II)I"⟩, (prog_1_method_32_code, (3, ((some .int), (9, (1, 2))))))
def abm_115 : abMt := (⟨"CelSheet", "expose", "(IIII)I"⟩, (prog_1_method_33_code, (6, ((some .int), (9, (1, 4))))))
def abm_116 : abMt := (⟨"CelSheet", "push", "(III)I"⟩, (prog_1_method_34_code, (7, ((some .int), (9, (1, 3))))))
def abm_117 : abMt := (⟨"CelSheet", "pull", "(III)I"⟩, (prog_1_method_35_code, (8, ((some .int), (9, (1, 3))))))
def abm_118 : abMt := (⟨"CelSheet", "turn", "(II)I"⟩, (prog_1_method_36_code, (6, ((some .int), (9, (1, 2))))))
def abm_119 : abMt := (⟨"CelSheet", "raise", "(I)I"⟩, (prog_1_method_37_code, (3, ((some .int), (9, (1, 1))))))
def abm_120 : abMt := (⟨"CelSheet", "twos", "(I)I"⟩, (prog_1_method_38_code, (2, ((some .int), (9, (1, 1))))))
def abm_121 : abMt := (⟨"CelSheet", "undo", "()I"⟩, (prog_1_method_39_code, (1, ((some .int), (9, (1, 0))))))
def abm_122 : abMt := (⟨"CelSheet", "keep", "(I)I"⟩, (prog_1_method_40_code, (2, ((some .int), (9, (1, 1))))))
def abm_123 : abMt := (⟨"CelSheet", "back", "(I)I"⟩, (prog_1_method_41_code, (2, ((some .int), (9, (1, 1))))))
def abm_124 : abMt := (⟨"CelSheet", "apart", "(I)I"⟩, (prog_1_method_42_code, (4, ((some .int), (9, (1, 1))))))
def abm_125 : abMt := (⟨"CelSheet", "hasPlace", "(II)Z"⟩, (prog_1_method_43_code, (3, ((some .boolean), (9, (1, 2))))))
def abm_126 : abMt := (⟨"CelSheet", "isOnPaper", "(II)Z"⟩, (prog_1_method_44_code, (2, ((some .boolean), (9, (0, 2))))))
def abm_127 : abMt := (⟨"CelSheet", "isDrawingOrBlank", "(I)Z"⟩, (prog_1_method_45_code, (1, ((some .boolean), (9, (0, 1))))))
def abm_128 : abMt := (⟨"CelSheet", "copyToSpare", "(I)V"⟩, (prog_1_method_46_code, (2, (none, (9, (1, 1))))))
def abm_129 : abMt := (⟨"CelSheet", "putOnTwos", "(I)V"⟩, (prog_1_method_47_code, (3, (none, (9, (1, 1))))))
def abm_130 : abMt := (⟨"CelSheet", "putSpare", "(I)I"⟩, (prog_1_method_48_code, (3, ((some .int), (9, (1, 1))))))
def abm_131 : abMt := (⟨"CelSheet", "forgetAll", "()V"⟩, (prog_1_method_49_code, (1, (none, (9, (1, 0))))))
def abm_132 : abMt := (⟨"CelSheet", "findPictures", "()V"⟩, (prog_1_method_50_code, (2, (none, (9, (1, 0))))))
def abm_133 : abMt := (⟨"CelSheet", "firstWithPicture", "(I)I"⟩, (prog_1_method_51_code, (3, ((some .int), (9, (1, 1))))))
def abm_134 : abMt := (⟨"CelSheet", "framesWithPicture", "(I)I"⟩, (prog_1_method_52_code, (4, ((some .int), (9, (1, 1))))))
def abm_135 : abMt := (⟨"CelSheet", "savedOfLayer", "(II)I"⟩, (prog_1_method_53_code, (4, ((some .int), (9, (1, 2))))))
def abm_136 : abMt := (⟨"CelSheetModel", "isIn", "(III)Z"⟩, (prog_13_method_1_code, (3, ((some .boolean), (10, (0, 3))))))
def abm_137 : abMt := (⟨"CelSheetModel", "lesser", "(II)I"⟩, (prog_13_method_2_code, (2, ((some .int), (10, (0, 2))))))
def abm_138 : abMt := (⟨"CelSheetModel", "greater", "(II)I"⟩, (prog_13_method_3_code, (2, ((some .int), (10, (0, 2))))))
def abm_139 : abMt := (⟨"CelSheetModel", "bare", "(I)I"⟩, (prog_13_method_4_code, (1, ((some .int), (10, (0, 1))))))
def abm_140 : abMt := (⟨"CelSheetModel", "<init>", "()V"⟩, (prog_13_method_5_code, (1, (none, (10, (2, 0))))))
def abm_141 : abMt := (⟨"CelSheetModel", "copies", "(II)V"⟩, (prog_13_method_6_code, (4, (none, (10, (1, 2))))))
def abm_142 : abMt := (⟨"CelSheetModel", "lays", "(I)V"⟩, (prog_13_method_7_code, (3, (none, (10, (1, 1))))))
def abm_143 : abMt := (⟨"CelSheetModel", "feed", "(IIIII)I"⟩, (prog_13_method_8_code, (6, ((some .int), (10, (1, 5))))))
def abm_144 : abMt := (⟨"CelSheetModel", "end", "(I)Z"⟩, (prog_13_method_9_code, (2, ((some .boolean), (10, (1, 1))))))
def abm_145 : abMt := (⟨"CelSheetModel", "byteAt", "(I)I"⟩, (prog_13_method_10_code, (2, ((some .int), (10, (1, 1))))))
def abm_146 : abMt := (⟨"CelSheetModel", "isSmall", "(I)Z"⟩, (prog_13_method_11_code, (2, ((some .boolean), (10, (1, 1))))))
def abm_147 : abMt := (⟨"CelSheetModel", "isDigit", "(I)Z"⟩, (prog_13_method_12_code, (2, ((some .boolean), (10, (1, 1))))))
def abm_148 : abMt := (⟨"CelSheetModel", "sees", "()I"⟩, (prog_13_method_13_code, (1, ((some .int), (10, (1, 0))))))
def abm_149 : abMt := (⟨"CelSheetModel", "begins", "()V"⟩, (prog_13_method_14_code, (1, (none, (10, (1, 0))))))
def abm_150 : abMt := (⟨"CelSheetModel", "goesWell", "()Z"⟩, (prog_13_method_15_code, (1, ((some .boolean), (10, (1, 0))))))
def abm_151 : abMt := (⟨"CelSheetModel", "faults", "(II)V"⟩, (prog_13_method_16_code, (3, (none, (10, (1, 2))))))
def abm_152 : abMt := (⟨"CelSheetModel", "wordEnd", "()I"⟩, (prog_13_method_17_code, (2, ((some .int), (10, (1, 0))))))
def abm_153 : abMt := (⟨"CelSheetModel", "ownTo", "(I)I"⟩, (prog_13_method_18_code, (5, ((some .int), (10, (1, 1))))))
def abm_154 : abMt := (⟨"CelSheetModel", "comes", "()I"⟩, (prog_13_method_19_code, (2, ((some .int), (10, (1, 0))))))
def abm_155 : abMt := (⟨"CelSheetModel", "passes", "()V"⟩, (prog_13_method_20_code, (2, (none, (10, (1, 0))))))
def abm_156 : abMt := (⟨"CelSheetModel", "takes", "(I)Z"⟩, (prog_13_method_21_code, (2, ((some .boolean), (10, (1, 1))))))
def abm_157 : abMt := (⟨"CelSheetModel", "must", "(I)V"⟩, (prog_13_method_22_code, (2, (none, (10, (1, 1))))))
def abm_158 : abMt := (⟨"CelSheetModel", "mustSign", "(I)V"⟩, (prog_13_method_23_code, (2, (none, (10, (1, 1))))))
def abm_159 : abMt := (⟨"CelSheetModel", "number", "(II)I"⟩, (prog_13_method_24_code, (4, ((some .int), (10, (1, 2))))))
def abm_160 : abMt := (⟨"CelSheetModel", "name", "()I"⟩, (prog_13_method_25_code, (2, ((some .int), (10, (1, 0))))))
def abm_161 : abMt := (⟨"CelSheetModel", "layerNamed", "(II)I"⟩, (prog_13_method_26_code, (4, ((some .int), (10, (1, 2))))))
def abm_162 : abMt := (⟨"CelSheetModel", "isNamed", "(I)Z"⟩, (prog_13_method_27_code, (3, ((some .boolean), (10, (1, 1))))))
def abm_163 : abMt := (⟨"CelSheetModel", "toldLayer", "()I"⟩, (prog_13_method_28_code, (2, ((some .int), (10, (1, 0))))))
def abm_164 : abMt := (⟨"CelSheetModel", "holdsOne", "(II)V"⟩, (prog_13_method_29_code, (3, (none, (10, (1, 2))))))
def abm_165 : abMt := (⟨"CelSheetModel", "again", "(II)V"⟩, (prog_13_method_30_code, (4, (none, (10, (1, 2))))))
def abm_166 : abMt := (⟨"CelSheetModel", "closes", "(IZI)V"⟩, (prog_13_method_31_code, (7, (none, (10, (1, 3))))))
def abm_167 : abMt := (⟨"CelSheetModel", "times", "(I)I"⟩, (prog_13_method_32_code, (2, ((some .int), (10, (1, 1))))))
def abm_168 : abMt := (⟨"CelSheetModel", "readsDrawings", "(I)V"⟩, (prog_13_method_33_code, (7, (none, (10, (1, 1))))))
def abm_169 : abMt := (⟨"CelSheetModel", "counts", "()V"⟩, (prog_13_method_34_code, (1, (none, (10, (1, 0))))))
def abm_170 : abMt := (⟨"CelSheetModel", "isPart", "()Z"⟩, (prog_13_method_35_code, (2, ((some .boolean), (10, (1, 0))))))
def abm_171 : abMt := (⟨"CelSheetModel", "opens", "()V"⟩, (prog_13_method_36_code, (2, (none, (10, (1, 0))))))
def abm_172 : abMt := (⟨"CelSheetModel", "looksAtDrawing", "()V"⟩, (prog_13_method_37_code, (3, (none, (10, (1, 0))))))
def abm_173 : abMt := (⟨"CelSheetModel", "readsPart", "(I)Z"⟩, (prog_13_method_38_code, (3, ((some .boolean), (10, (1, 1))))))
def abm_174 : abMt := (⟨"CelSheetModel", "readsLine", "(I)V"⟩, (prog_13_method_39_code, (5, (none, (10, (1, 1))))))
def abm_175 : abMt := (⟨"CelSheetModel", "laysTold", "(II)V"⟩, (prog_13_method_40_code, (7, (none, (10, (1, 2))))))
def abm_176 : abMt := (⟨"CelSheetModel", "readOf", "(I)I"⟩, (prog_13_method_41_code, (2, ((some .int), (10, (1, 1))))))
def abm_177 : abMt := (⟨"CelSheetModel", "readsFrames", "()V"⟩, (prog_13_method_42_code, (1, (none, (10, (1, 0))))))
def abm_178 : abMt := (⟨"CelSheetModel", "readsLayer", "()V"⟩, (prog_13_method_43_code, (6, (none, (10, (1, 0))))))
def abm_179 : abMt := (⟨"CelSheetModel", "readsBox", "()V"⟩, (prog_13_method_44_code, (2, (none, (10, (1, 0))))))
def abm_180 : abMt := (⟨"CelSheetModel", "readsSpan", "(I)V"⟩, (prog_13_method_45_code, (2, (none, (10, (1, 1))))))
def abm_181 : abMt := (⟨"CelSheetModel", "readsWay", "(II)I"⟩, (prog_13_method_46_code, (4, ((some .int), (10, (1, 2))))))
def abm_182 : abMt := (⟨"CelSheetModel", "readsSlide", "()V"⟩, (prog_13_method_47_code, (5, (none, (10, (1, 0))))))
def abm_183 : abMt := (⟨"CelSheetModel", "readsHide", "()V"⟩, (prog_13_method_48_code, (2, (none, (10, (1, 0))))))
def abm_184 : abMt := (⟨"CelSheetModel", "isFull", "(I)Z"⟩, (prog_13_method_49_code, (2, ((some .boolean), (10, (1, 1))))))
def abm_185 : abMt := (⟨"CelSheetModel", "readsStatement", "()V"⟩, (prog_13_method_50_code, (2, (none, (10, (1, 0))))))
def abm_186 : abMt := (⟨"CelSheetModel", "ends", "()V"⟩, (prog_13_method_51_code, (1, (none, (10, (1, 0))))))
def abm_187 : abMt := (⟨"CelSheetModel", "scene", "()I"⟩, (prog_13_method_52_code, (2, ((some .int), (10, (1, 0))))))
def abm_188 : abMt := (⟨"CelSheetModel", "fault", "(I)I"⟩, (prog_13_method_53_code, (2, ((some .int), (10, (1, 1))))))
def abm_189 : abMt := (⟨"CelSheetModel", "named", "()I"⟩, (prog_13_method_54_code, (3, ((some .int), (10, (1, 0))))))
def abm_190 : abMt := (⟨"CelSheetModel", "frames", "()I"⟩, (prog_13_method_55_code, (1, ((some .int), (10, (1, 0))))))
def abm_191 : abMt := (⟨"CelSheetModel", "layers", "()I"⟩, (prog_13_method_56_code, (1, ((some .int), (10, (1, 0))))))
def abm_192 : abMt := (⟨"CelSheetModel", "isLayer", "(I)Z"⟩, (prog_13_method_57_code, (2, ((some .boolean), (10, (1, 1))))))
def abm_193 : abMt := (⟨"CelSheetModel", "isFrame", "(I)Z"⟩, (prog_13_method_58_code, (2, ((some .boolean), (10, (1, 1))))))
def abm_194 : abMt := (⟨"CelSheetModel", "has", "(III)I"⟩, (prog_13_method_59_code, (4, ((some .int), (10, (1, 3))))))
def abm_195 : abMt := (⟨"CelSheetModel", "look", "(I)I"⟩, (prog_13_method_60_code, (2, ((some .int), (10, (1, 1))))))
def abm_196 : abMt := (⟨"CelSheetModel", "placeOf", "(I)I"⟩, (prog_13_method_61_code, (3, ((some .int), (10, (1, 1))))))
def abm_197 : abMt := (⟨"CelSheetModel", "beginsAt", "(III)Z"⟩, (prog_13_method_62_code, (4, ((some .boolean), (10, (1, 3))))))
def abm_198 : abMt := (⟨"CelSheetModel", "exposures", "(IIZ)I"⟩, (prog_13_method_63_code, (6, ((some .int), (10, (1, 3))))))
def abm_199 : abMt := (⟨"CelSheetModel", "unlikeDrawings", "(I)I"⟩, (prog_13_method_64_code, (4, ((some .int), (10, (1, 1))))))
def abm_200 : abMt := (⟨"CelSheetModel", "wasAhead", "(II)Z"⟩, (prog_13_method_65_code, (4, ((some .boolean), (10, (1, 2))))))
def abm_201 : abMt := (⟨"CelSheetModel", "filled", "(I)I"⟩, (prog_13_method_66_code, (4, ((some .int), (10, (1, 1))))))
def abm_202 : abMt := (⟨"CelSheetModel", "jumps", "(I)I"⟩, (prog_13_method_67_code, (6, ((some .int), (10, (1, 1))))))
def abm_203 : abMt := (⟨"CelSheetModel", "greatest", "(I)I"⟩, (prog_13_method_68_code, (4, ((some .int), (10, (1, 1))))))
def abm_204 : abMt := (⟨"CelSheetModel", "layer", "(II)I"⟩, (prog_13_method_69_code, (3, ((some .int), (10, (1, 2))))))
def abm_205 : abMt := (⟨"CelSheetModel", "spelt", "(II)I"⟩, (prog_13_method_70_code, (4, ((some .int), (10, (1, 2))))))
def abm_206 : abMt := (⟨"CelSheetModel", "box", "(II)I"⟩, (prog_13_method_71_code, (3, ((some .int), (10, (1, 2))))))
def abm_207 : abMt := (⟨"CelSheetModel", "at", "(II)I"⟩, (prog_13_method_72_code, (3, ((some .int), (10, (1, 2))))))
def abm_208 : abMt := (⟨"CelSheetModel", "told", "(II)I"⟩, (prog_13_method_73_code, (3, ((some .int), (10, (1, 2))))))
def abm_209 : abMt := (⟨"CelSheetModel", "hold", "(III)I"⟩, (prog_13_method_74_code, (6, ((some .int), (10, (1, 3))))))
def abm_210 : abMt := (⟨"CelSheetModel", "exposuresAhead", "(II)I"⟩, (prog_13_method_75_code, (5, ((some .int), (10, (1, 2))))))
def abm_211 : abMt := (⟨"CelSheetModel", "find", "(III)I"⟩, (prog_13_method_76_code, (6, ((some .int), (10, (1, 3))))))
def abm_212 : abMt := (⟨"CelSheetModel", "isCycle", "(III)Z"⟩, (prog_13_method_77_code, (6, ((some .boolean), (10, (1, 3))))))
def abm_213 : abMt := (⟨"CelSheetModel", "findsCycle", "(I)V"⟩, (prog_13_method_78_code, (4, (none, (10, (1, 1))))))
def abm_214 : abMt := (⟨"CelSheetModel", "cycle", "(II)I"⟩, (prog_13_method_79_code, (3, ((some .int), (10, (1, 2))))))
def abm_215 : abMt := (⟨"CelSheetModel", "closesCycle", "(I)Z"⟩, (prog_13_method_80_code, (4, ((some .boolean), (10, (1, 1))))))
def abm_216 : abMt := (⟨"CelSheetModel", "laysRow", "(I)V"⟩, (prog_13_method_81_code, (3, (none, (10, (1, 1))))))
def abm_217 : abMt := (⟨"CelSheetModel", "areLike", "(II)Z"⟩, (prog_13_method_82_code, (3, ((some .boolean), (10, (1, 2))))))
def abm_218 : abMt := (⟨"CelSheetModel", "isRun", "(II)Z"⟩, (prog_13_method_83_code, (6, ((some .boolean), (10, (1, 2))))))
def abm_219 : abMt := (⟨"CelSheetModel", "isRound", "(III)Z"⟩, (prog_13_method_84_code, (5, ((some .boolean), (10, (1, 3))))))
def abm_220 : abMt := (⟨"CelSheetModel", "isSwing", "(III)Z"⟩, (prog_13_method_85_code, (5, ((some .boolean), (10, (1, 3))))))
def abm_221 : abMt := (⟨"CelSheetModel", "fewestOf", "(II)I"⟩, (prog_13_method_86_code, (3, ((some .int), (10, (1, 2))))))
def abm_222 : abMt := (⟨"CelSheetModel", "marksOf", "(II)I"⟩, (prog_13_method_87_code, (5, ((some .int), (10, (1, 2))))))
def abm_223 : abMt := (⟨"CelSheetModel", "marksIn", "(I)I"⟩, (prog_13_method_88_code, (4, ((some .int), (10, (1, 1))))))
def abm_224 : abMt := (⟨"CelSheetModel", "marks", "(I)I"⟩, (prog_13_method_89_code, (2, ((some .int), (10, (1, 1))))))
def abm_225 : abMt := (⟨"CelSheetModel", "moved", "(III)I"⟩, (prog_13_method_90_code, (7, ((some .int), (10, (1, 3))))))
def abm_226 : abMt := (⟨"CelSheetModel", "shift", "(III)I"⟩, (prog_13_method_91_code, (4, ((some .int), (10, (1, 3))))))
def abm_227 : abMt := (⟨"CelSheetModel", "isHidden", "(II)Z"⟩, (prog_13_method_92_code, (5, ((some .boolean), (10, (1, 2))))))
def abm_228 : abMt := (⟨"CelSheetModel", "hidden", "(II)I"⟩, (prog_13_method_93_code, (3, ((some .int), (10, (1, 2))))))
def abm_229 : abMt := (⟨"CelSheetModel", "inkOf", "(IIII)I"⟩, (prog_13_method_94_code, (7, ((some .int), (10, (1, 4))))))
def abm_230 : abMt := (⟨"CelSheetModel", "composes", "(II)V"⟩, (prog_13_method_95_code, (11, (none, (10, (1, 2))))))
def abm_231 : abMt := (⟨"CelSheetModel", "composesAll", "(I)V"⟩, (prog_13_method_96_code, (3, (none, (10, (1, 1))))))
def abm_232 : abMt := (⟨"CelSheetModel", "isPlace", "(II)Z"⟩, (prog_13_method_97_code, (2, ((some .boolean), (10, (0, 2))))))
def abm_233 : abMt := (⟨"CelSheetModel", "cell", "(III)I"⟩, (prog_13_method_98_code, (4, ((some .int), (10, (1, 3))))))
def abm_234 : abMt := (⟨"CelSheetModel", "top", "(III)I"⟩, (prog_13_method_99_code, (4, ((some .int), (10, (1, 3))))))
def abm_235 : abMt := (⟨"CelSheetModel", "ink", "(II)I"⟩, (prog_13_method_100_code, (5, ((some .int), (10, (1, 2))))))
def abm_236 : abMt := (⟨"CelSheetModel", "seen", "(II)I"⟩, (prog_13_method_101_code, (5, ((some .int), (10, (1, 2))))))
def abm_237 : abMt := (⟨"CelSheetModel", "areAlike", "(II)Z"⟩, (prog_13_method_102_code, (4, ((some .boolean), (10, (1, 2))))))
def abm_238 : abMt := (⟨"CelSheetModel", "same", "(II)I"⟩, (prog_13_method_103_code, (3, ((some .int), (10, (1, 2))))))
def abm_239 : abMt := (⟨"CelSheetModel", "firstLike", "(I)I"⟩, (prog_13_method_104_code, (3, ((some .int), (10, (1, 1))))))
def abm_240 : abMt := (⟨"CelSheetModel", "like", "(II)I"⟩, (prog_13_method_105_code, (5, ((some .int), (10, (1, 2))))))
def abm_241 : abMt := (⟨"CelSheetModel", "takesIn", "(I)I"⟩, (prog_13_method_106_code, (4, ((some .int), (10, (1, 1))))))
def abm_242 : abMt := (⟨"CelSheetModel", "take", "(I)I"⟩, (prog_13_method_107_code, (4, ((some .int), (10, (1, 1))))))
def abm_243 : abMt := (⟨"CelSheetModel", "findsStill", "()V"⟩, (prog_13_method_108_code, (3, (none, (10, (1, 0))))))
def abm_244 : abMt := (⟨"CelSheetModel", "still", "(I)I"⟩, (prog_13_method_109_code, (2, ((some .int), (10, (1, 1))))))
def abm_245 : abMt := (⟨"CelSheetModel", "changes", "(I)I"⟩, (prog_13_method_110_code, (4, ((some .int), (10, (1, 1))))))
def abm_246 : abMt := (⟨"CelSheetModel", "savedByHolds", "()I"⟩, (prog_13_method_111_code, (3, ((some .int), (10, (1, 0))))))
def abm_247 : abMt := (⟨"CelSheetModel", "savedAgain", "()I"⟩, (prog_13_method_112_code, (3, ((some .int), (10, (1, 0))))))
def abm_248 : abMt := (⟨"CelSheetModel", "savedByMarks", "()I"⟩, (prog_13_method_113_code, (3, ((some .int), (10, (1, 0))))))
def abm_249 : abMt := (⟨"CelSheetModel", "saved", "(I)I"⟩, (prog_13_method_114_code, (2, ((some .int), (10, (1, 1))))))
def abm_250 : abMt := (⟨"CelSheetModel", "sets", "(IIII)V"⟩, (prog_13_method_115_code, (5, (none, (10, (1, 4))))))
def abm_251 : abMt := (⟨"CelSheetModel", "turns", "(II)V"⟩, (prog_13_method_116_code, (4, (none, (10, (1, 2))))))
def abm_252 : abMt := (⟨"CelSheetModel", "turned", "(II)I"⟩, (prog_13_method_117_code, (3, ((some .int), (10, (1, 2))))))
def abm_253 : abMt := (⟨"CelSheetModel", "findsBest", "(I)V"⟩, (prog_13_method_118_code, (4, (none, (10, (1, 1))))))
def abm_254 : abMt := (⟨"CelSheetModel", "best", "(II)I"⟩, (prog_13_method_119_code, (3, ((some .int), (10, (1, 2))))))
def abm_255 : abMt := (⟨"CelSheetModel", "without", "(I)I"⟩, (prog_13_method_120_code, (3, ((some .int), (10, (1, 1))))))
def abm_256 : abMt := (⟨"CelSheetModel", "doubles", "(I)V"⟩, (prog_13_method_121_code, (3, (none, (10, (1, 1))))))
def abm_257 : abMt := (⟨"CelSheetModel", "others", "(I)I"⟩, (prog_13_method_122_code, (4, ((some .int), (10, (1, 1))))))
def abm_258 : abMt := (⟨"CelSheetModel", "doubled", "(II)I"⟩, (prog_13_method_123_code, (3, ((some .int), (10, (1, 2))))))
def abm_259 : abMt := (⟨"CelSheetModel", "becomes", "()V"⟩, (prog_13_method_124_code, (2, (none, (10, (1, 0))))))
def abm_260 : abMt := (⟨"CelSheetModel", "expose", "(IIII)I"⟩, (prog_13_method_125_code, (6, ((some .int), (10, (1, 4))))))
def abm_261 : abMt := (⟨"CelSheetModel", "lostBy", "(III)I"⟩, (prog_13_method_126_code, (6, ((some .int), (10, (1, 3))))))
def abm_262 : abMt := (⟨"CelSheetModel", "push", "(III)I"⟩, (prog_13_method_127_code, (7, ((some .int), (10, (1, 3))))))
def abm_263 : abMt := (⟨"CelSheetModel", "pull", "(III)I"⟩, (prog_13_method_128_code, (7, ((some .int), (10, (1, 3))))))
def abm_264 : abMt := (⟨"CelSheetModel", "turn", "(II)I"⟩, (prog_13_method_129_code, (4, ((some .int), (10, (1, 2))))))
def abm_265 : abMt := (⟨"CelSheetModel", "raise", "(I)I"⟩, (prog_13_method_130_code, (3, ((some .int), (10, (1, 1))))))
def abm_266 : abMt := (⟨"CelSheetModel", "twos", "(I)I"⟩, (prog_13_method_131_code, (3, ((some .int), (10, (1, 1))))))
def abm_267 : abMt := (⟨"CelSheetModel", "undo", "()I"⟩, (prog_13_method_132_code, (1, ((some .int), (10, (1, 0))))))
def abm_268 : abMt := (⟨"CelSheetModel", "keep", "(I)I"⟩, (prog_13_method_133_code, (2, ((some .int), (10, (1, 1))))))
def abm_269 : abMt := (⟨"CelSheetModel", "back", "(I)I"⟩, (prog_13_method_134_code, (2, ((some .int), (10, (1, 1))))))
def abm_270 : abMt := (⟨"CelSheetModel", "apart", "(I)I"⟩, (prog_13_method_135_code, (5, ((some .int), (10, (1, 1))))))
def abm_271 : abMt := (⟨"CelSheet$Rows", "exposures", "([II)I"⟩, (prog_8_method_2_code, (4, ((some .int), (11, (0, 2))))))
def abm_272 : abMt := (⟨"CelSheet$Rows", "filledExposures", "([II)I"⟩, (prog_8_method_3_code, (4, ((some .int), (11, (0, 2))))))
def abm_273 : abMt := (⟨"CelSheet$Rows", "filled", "([II)I"⟩, (prog_8_method_4_code, (4, ((some .int), (11, (0, 2))))))
def abm_274 : abMt := (⟨"CelSheet$Rows", "unlike", "([II)I"⟩, (prog_8_method_5_code, (7, ((some .int), (11, (0, 2))))))
def abm_275 : abMt := (⟨"CelSheet$Rows", "jumps", "([II)I"⟩, (prog_8_method_6_code, (4, ((some .int), (11, (0, 2))))))
def abm_276 : abMt := (⟨"CelSheet$Rows", "greatest", "([II)I"⟩, (prog_8_method_7_code, (4, ((some .int), (11, (0, 2))))))
def abm_277 : abMt := (⟨"CelSheet$Rows", "differences", "([I[II)I"⟩, (prog_8_method_8_code, (5, ((some .int), (11, (0, 3))))))
def abm_278 : abMt := (⟨"CelSheet$Rows", "firstOfExposure", "([II)I"⟩, (prog_8_method_9_code, (3, ((some .int), (11, (0, 2))))))
def abm_279 : abMt := (⟨"CelSheet$Rows", "exposureStop", "([III)I"⟩, (prog_8_method_10_code, (4, ((some .int), (11, (0, 3))))))
def abm_280 : abMt := (⟨"CelSheet$Rows", "cycleBegin", "([III)I"⟩, (prog_8_method_11_code, (4, ((some .int), (11, (0, 3))))))
def abm_281 : abMt := (⟨"CelSheet$Rows", "cyclePeriod", "([II)I"⟩, (prog_8_method_12_code, (6, ((some .int), (11, (0, 2))))))
def abm_282 : abMt := (⟨"CelSheet$Rows", "closes", "([III)Z"⟩, (prog_8_method_13_code, (5, ((some .boolean), (11, (0, 3))))))
def abm_283 : abMt := (⟨"java/lang/Long", "bitCount", "(J)I"⟩, (prog_14_method_50_code, (2, ((some .int), (13, (0, 1))))))
def abm_284 : abMt := (⟨"java/lang/String", "length", "()I"⟩, (prog_16_method_54_code, (1, ((some .int), (15, (1, 0))))))
def abm_285 : abMt := (⟨"java/lang/String", "charAt", "(I)C"⟩, (prog_16_method_56_code, (2, ((some .char), (15, (1, 1))))))
def abm_286 : abMt := (⟨"java/lang/String", "coder", "()B"⟩, (prog_16_method_152_code, (1, ((some .byte), (15, (1, 0))))))
def abm_287 : abMt := (⟨"java/lang/String", "isLatin1", "()Z"⟩, (prog_16_method_154_code, (1, ((some .boolean), (15, (1, 0))))))
def abm_288 : abMt := (⟨"java/lang/String", "checkIndex", "(II)V"⟩, (prog_16_method_155_code, (2, (none, (15, (0, 2))))))
def abm_289 : abMt := (⟨"java/lang/StringLatin1", "charAt", "([BI)C"⟩, (prog_17_method_2_code, (2, ((some .char), (16, (0, 2))))))
def abm_290 : abMt := (⟨"java/lang/StringUTF16", "getChar", "([BI)C"⟩, (prog_18_method_5_code, (2, ((some .char), (17, (0, 2))))))
def abm_291 : abMt := (⟨"java/lang/StringUTF16", "length", "([B)I"⟩, (prog_18_method_6_code, (1, ((some .int), (17, (0, 1))))))
def abm_292 : abMt := (⟨"java/lang/StringUTF16", "charAt", "([BI)C"⟩, (prog_18_method_83_code, (2, ((some .char), (17, (0, 2))))))
def abm_293 : abMt := (⟨"java/lang/StringUTF16", "checkIndex", "(I[B)V"⟩, (prog_18_method_91_code, (2, (none, (17, (0, 2))))))
def abm_294 : abMt := (⟨"java/util/Arrays", "fill", "([JJ)V"⟩, (prog_20_method_101_code, (5, (none, (19, (0, 2))))))
def abm_295 : abMt := (⟨"java/util/Arrays", "fill", "([II)V"⟩, (prog_20_method_103_code, (4, (none, (19, (0, 2))))))
def abm_296 : abMt := (⟨"jdk/internal/util/Preconditions", "checkIndex", "(IILjava/util/function/BiFunction;)I"⟩, (prog_21_method_11_code, (3, ((some .int), (20, (0, 3))))))
def abm_297 : abMt := (⟨"CelSheetLaw", "law", "([I)Z"⟩, (code, (4, ((some .boolean), (12, (0, 1))))))
noncomputable def abM (i : Nat) : abMt := (bif Nat.blt i 149 then (bif Nat.blt i 74 then (bif Nat.blt i 37 then (bif Nat.blt i 18 then (bif Nat.blt i 9 then (bif Nat.blt i 4 then (bif Nat.blt i 2 then (bif Nat.blt i 1 then abm_0 else abm_1) else (bif Nat.blt i 3 then abm_2 else abm_3)) else (bif Nat.blt i 6 then (bif Nat.blt i 5 then abm_4 else abm_5) else (bif Nat.blt i 7 then abm_6 else (bif Nat.blt i 8 then abm_7 else abm_8)))) else (bif Nat.blt i 13 then (bif Nat.blt i 11 then (bif Nat.blt i 10 then abm_9 else abm_10) else (bif Nat.blt i 12 then abm_11 else abm_12)) else (bif Nat.blt i 15 then (bif Nat.blt i 14 then abm_13 else abm_14) else (bif Nat.blt i 16 then abm_15 else (bif Nat.blt i 17 then abm_16 else abm_17))))) else (bif Nat.blt i 27 then (bif Nat.blt i 22 then (bif Nat.blt i 20 then (bif Nat.blt i 19 then abm_18 else abm_19) else (bif Nat.blt i 21 then abm_20 else abm_21)) else (bif Nat.blt i 24 then (bif Nat.blt i 23 then abm_22 else abm_23) else (bif Nat.blt i 25 then abm_24 else (bif Nat.blt i 26 then abm_25 else abm_26)))) else (bif Nat.blt i 32 then (bif Nat.blt i 29 then (bif Nat.blt i 28 then abm_27 else abm_28) else (bif Nat.blt i 30 then abm_29 else (bif Nat.blt i 31 then abm_30 else abm_31))) else (bif Nat.blt i 34 then (bif Nat.blt i 33 then abm_32 else abm_33) else (bif Nat.blt i 35 then abm_34 else (bif Nat.blt i 36 then abm_35 else abm_36)))))) else (bif Nat.blt i 55 then (bif Nat.blt i 46 then (bif Nat.blt i 41 then (bif Nat.blt i 39 then (bif Nat.blt i 38 then abm_37 else abm_38) else (bif Nat.blt i 40 then abm_39 else abm_40)) else (bif Nat.blt i 43 then (bif Nat.blt i 42 then abm_41 else abm_42) else (bif Nat.blt i 44 then abm_43 else (bif Nat.blt i 45 then abm_44 else abm_45)))) else (bif Nat.blt i 50 then (bif Nat.blt i 48 then (bif Nat.blt i 47 then abm_46 else abm_47) else (bif Nat.blt i 49 then abm_48 else abm_49)) else (bif Nat.blt i 52 then (bif Nat.blt i 51 then abm_50 else abm_51) else (bif Nat.blt i 53 then abm_52 else (bif Nat.blt i 54 then abm_53 else abm_54))))) else (bif Nat.blt i 64 then (bif Nat.blt i 59 then (bif Nat.blt i 57 then (bif Nat.blt i 56 then abm_55 else abm_56) else (bif Nat.blt i 58 then abm_57 else abm_58)) else (bif Nat.blt i 61 then (bif Nat.blt i 60 then abm_59 else abm_60) else (bif Nat.blt i 62 then abm_61 else (bif Nat.blt i 63 then abm_62 else abm_63)))) else (bif Nat.blt i 69 then (bif Nat.blt i 66 then (bif Nat.blt i 65 then abm_64 else abm_65) else (bif Nat.blt i 67 then abm_66 else (bif Nat.blt i 68 then abm_67 else abm_68))) else (bif Nat.blt i 71 then (bif Nat.blt i 70 then abm_69 else abm_70) else (bif Nat.blt i 72 then abm_71 else (bif Nat.blt i 73 then abm_72 else abm_73))))))) else (bif Nat.blt i 111 then (bif Nat.blt i 92 then (bif Nat.blt i 83 then (bif Nat.blt i 78 then (bif Nat.blt i 76 then (bif Nat.blt i 75 then abm_74 else abm_75) else (bif Nat.blt i 77 then abm_76 else abm_77)) else (bif Nat.blt i 80 then (bif Nat.blt i 79 then abm_78 else abm_79) else (bif Nat.blt i 81 then abm_80 else (bif Nat.blt i 82 then abm_81 else abm_82)))) else (bif Nat.blt i 87 then (bif Nat.blt i 85 then (bif Nat.blt i 84 then abm_83 else abm_84) else (bif Nat.blt i 86 then abm_85 else abm_86)) else (bif Nat.blt i 89 then (bif Nat.blt i 88 then abm_87 else abm_88) else (bif Nat.blt i 90 then abm_89 else (bif Nat.blt i 91 then abm_90 else abm_91))))) else (bif Nat.blt i 101 then (bif Nat.blt i 96 then (bif Nat.blt i 94 then (bif Nat.blt i 93 then abm_92 else abm_93) else (bif Nat.blt i 95 then abm_94 else abm_95)) else (bif Nat.blt i 98 then (bif Nat.blt i 97 then abm_96 else abm_97) else (bif Nat.blt i 99 then abm_98 else (bif Nat.blt i 100 then abm_99 else abm_100)))) else (bif Nat.blt i 106 then (bif Nat.blt i 103 then (bif Nat.blt i 102 then abm_101 else abm_102) else (bif Nat.blt i 104 then abm_103 else (bif Nat.blt i 105 then abm_104 else abm_105))) else (bif Nat.blt i 108 then (bif Nat.blt i 107 then abm_106 else abm_107) else (bif Nat.blt i 109 then abm_108 else (bif Nat.blt i 110 then abm_109 else abm_110)))))) else (bif Nat.blt i 130 then (bif Nat.blt i 120 then (bif Nat.blt i 115 then (bif Nat.blt i 113 then (bif Nat.blt i 112 then abm_111 else abm_112) else (bif Nat.blt i 114 then abm_113 else abm_114)) else (bif Nat.blt i 117 then (bif Nat.blt i 116 then abm_115 else abm_116) else (bif Nat.blt i 118 then abm_117 else (bif Nat.blt i 119 then abm_118 else abm_119)))) else (bif Nat.blt i 125 then (bif Nat.blt i 122 then (bif Nat.blt i 121 then abm_120 else abm_121) else (bif Nat.blt i 123 then abm_122 else (bif Nat.blt i 124 then abm_123 else abm_124))) else (bif Nat.blt i 127 then (bif Nat.blt i 126 then abm_125 else abm_126) else (bif Nat.blt i 128 then abm_127 else (bif Nat.blt i 129 then abm_128 else abm_129))))) else (bif Nat.blt i 139 then (bif Nat.blt i 134 then (bif Nat.blt i 132 then (bif Nat.blt i 131 then abm_130 else abm_131) else (bif Nat.blt i 133 then abm_132 else abm_133)) else (bif Nat.blt i 136 then (bif Nat.blt i 135 then abm_134 else abm_135) else (bif Nat.blt i 137 then abm_136 else (bif Nat.blt i 138 then abm_137 else abm_138)))) else (bif Nat.blt i 144 then (bif Nat.blt i 141 then (bif Nat.blt i 140 then abm_139 else abm_140) else (bif Nat.blt i 142 then abm_141 else (bif Nat.blt i 143 then abm_142 else abm_143))) else (bif Nat.blt i 146 then (bif Nat.blt i 145 then abm_144 else abm_145) else (bif Nat.blt i 147 then abm_146 else (bif Nat.blt i 148 then abm_147 else abm_148)))))))) else (bif Nat.blt i 223 then (bif Nat.blt i 186 then (bif Nat.blt i 167 then (bif Nat.blt i 158 then (bif Nat.blt i 153 then (bif Nat.blt i 151 then (bif Nat.blt i 150 then abm_149 else abm_150) else (bif Nat.blt i 152 then abm_151 else abm_152)) else (bif Nat.blt i 155 then (bif Nat.blt i 154 then abm_153 else abm_154) else (bif Nat.blt i 156 then abm_155 else (bif Nat.blt i 157 then abm_156 else abm_157)))) else (bif Nat.blt i 162 then (bif Nat.blt i 160 then (bif Nat.blt i 159 then abm_158 else abm_159) else (bif Nat.blt i 161 then abm_160 else abm_161)) else (bif Nat.blt i 164 then (bif Nat.blt i 163 then abm_162 else abm_163) else (bif Nat.blt i 165 then abm_164 else (bif Nat.blt i 166 then abm_165 else abm_166))))) else (bif Nat.blt i 176 then (bif Nat.blt i 171 then (bif Nat.blt i 169 then (bif Nat.blt i 168 then abm_167 else abm_168) else (bif Nat.blt i 170 then abm_169 else abm_170)) else (bif Nat.blt i 173 then (bif Nat.blt i 172 then abm_171 else abm_172) else (bif Nat.blt i 174 then abm_173 else (bif Nat.blt i 175 then abm_174 else abm_175)))) else (bif Nat.blt i 181 then (bif Nat.blt i 178 then (bif Nat.blt i 177 then abm_176 else abm_177) else (bif Nat.blt i 179 then abm_178 else (bif Nat.blt i 180 then abm_179 else abm_180))) else (bif Nat.blt i 183 then (bif Nat.blt i 182 then abm_181 else abm_182) else (bif Nat.blt i 184 then abm_183 else (bif Nat.blt i 185 then abm_184 else abm_185)))))) else (bif Nat.blt i 204 then (bif Nat.blt i 195 then (bif Nat.blt i 190 then (bif Nat.blt i 188 then (bif Nat.blt i 187 then abm_186 else abm_187) else (bif Nat.blt i 189 then abm_188 else abm_189)) else (bif Nat.blt i 192 then (bif Nat.blt i 191 then abm_190 else abm_191) else (bif Nat.blt i 193 then abm_192 else (bif Nat.blt i 194 then abm_193 else abm_194)))) else (bif Nat.blt i 199 then (bif Nat.blt i 197 then (bif Nat.blt i 196 then abm_195 else abm_196) else (bif Nat.blt i 198 then abm_197 else abm_198)) else (bif Nat.blt i 201 then (bif Nat.blt i 200 then abm_199 else abm_200) else (bif Nat.blt i 202 then abm_201 else (bif Nat.blt i 203 then abm_202 else abm_203))))) else (bif Nat.blt i 213 then (bif Nat.blt i 208 then (bif Nat.blt i 206 then (bif Nat.blt i 205 then abm_204 else abm_205) else (bif Nat.blt i 207 then abm_206 else abm_207)) else (bif Nat.blt i 210 then (bif Nat.blt i 209 then abm_208 else abm_209) else (bif Nat.blt i 211 then abm_210 else (bif Nat.blt i 212 then abm_211 else abm_212)))) else (bif Nat.blt i 218 then (bif Nat.blt i 215 then (bif Nat.blt i 214 then abm_213 else abm_214) else (bif Nat.blt i 216 then abm_215 else (bif Nat.blt i 217 then abm_216 else abm_217))) else (bif Nat.blt i 220 then (bif Nat.blt i 219 then abm_218 else abm_219) else (bif Nat.blt i 221 then abm_220 else (bif Nat.blt i 222 then abm_221 else abm_222))))))) else (bif Nat.blt i 260 then (bif Nat.blt i 241 then (bif Nat.blt i 232 then (bif Nat.blt i 227 then (bif Nat.blt i 225 then (bif Nat.blt i 224 then abm_223 else abm_224) else (bif Nat.blt i 226 then abm_225 else abm_226)) else (bif Nat.blt i 229 then (bif Nat.blt i 228 then abm_227 else abm_228) else (bif Nat.blt i 230 then abm_229 else (bif Nat.blt i 231 then abm_230 else abm_231)))) else (bif Nat.blt i 236 then (bif Nat.blt i 234 then (bif Nat.blt i 233 then abm_232 else abm_233) else (bif Nat.blt i 235 then abm_234 else abm_235)) else (bif Nat.blt i 238 then (bif Nat.blt i 237 then abm_236 else abm_237) else (bif Nat.blt i 239 then abm_238 else (bif Nat.blt i 240 then abm_239 else abm_240))))) else (bif Nat.blt i 250 then (bif Nat.blt i 245 then (bif Nat.blt i 243 then (bif Nat.blt i 242 then abm_241 else abm_242) else (bif Nat.blt i 244 then abm_243 else abm_244)) else (bif Nat.blt i 247 then (bif Nat.blt i 246 then abm_245 else abm_246) else (bif Nat.blt i 248 then abm_247 else (bif Nat.blt i 249 then abm_248 else abm_249)))) else (bif Nat.blt i 255 then (bif Nat.blt i 252 then (bif Nat.blt i 251 then abm_250 else abm_251) else (bif Nat.blt i 253 then abm_252 else (bif Nat.blt i 254 then abm_253 else abm_254))) else (bif Nat.blt i 257 then (bif Nat.blt i 256 then abm_255 else abm_256) else (bif Nat.blt i 258 then abm_257 else (bif Nat.blt i 259 then abm_258 else abm_259)))))) else (bif Nat.blt i 279 then (bif Nat.blt i 269 then (bif Nat.blt i 264 then (bif Nat.blt i 262 then (bif Nat.blt i 261 then abm_260 else abm_261) else (bif Nat.blt i 263 then abm_262 else abm_263)) else (bif Nat.blt i 266 then (bif Nat.blt i 265 then abm_264 else abm_265) else (bif Nat.blt i 267 then abm_266 else (bif Nat.blt i 268 then abm_267 else abm_268)))) else (bif Nat.blt i 274 then (bif Nat.blt i 271 then (bif Nat.blt i 270 then abm_269 else abm_270) else (bif Nat.blt i 272 then abm_271 else (bif Nat.blt i 273 then abm_272 else abm_273))) else (bif Nat.blt i 276 then (bif Nat.blt i 275 then abm_274 else abm_275) else (bif Nat.blt i 277 then abm_276 else (bif Nat.blt i 278 then abm_277 else abm_278))))) else (bif Nat.blt i 288 then (bif Nat.blt i 283 then (bif Nat.blt i 281 then (bif Nat.blt i 280 then abm_279 else abm_280) else (bif Nat.blt i 282 then abm_281 else abm_282)) else (bif Nat.blt i 285 then (bif Nat.blt i 284 then abm_283 else abm_284) else (bif Nat.blt i 286 then abm_285 else (bif Nat.blt i 287 then abm_286 else abm_287)))) else (bif Nat.blt i 293 then (bif Nat.blt i 290 then (bif Nat.blt i 289 then abm_288 else abm_289) else (bif Nat.blt i 291 then abm_290 else (bif Nat.blt i 292 then abm_291 else abm_292))) else (bif Nat.blt i 295 then (bif Nat.blt i 294 then abm_293 else abm_294) else (bif Nat.blt i 296 then abm_295 else (bif Nat.blt i 297 then abm_296 else abm_297)))))))))
noncomputable def abY (i : Nat) : MethodName := (abM i).1
noncomputable def abB (i : Nat) : ByteArray := (abM i).2.1
noncomputable def abL (i : Nat) : Nat := (abM i).2.2.1
noncomputable def abRet (i : Nat) : Option FieldType := (abM i).2.2.2.1
noncomputable def abOwn (i : Nat) : Nat := (abM i).2.2.2.2.1
noncomputable def abKd (i : Nat) : Nat := (abM i).2.2.2.2.2.1
noncomputable def abNa (i : Nat) : Nat := (abM i).2.2.2.2.2.2
theorem ab_cond {α : Type} {P : α → Prop} {b : Bool} {x y : α} (h1 : b = true → P x) (h2 : b = false → P y) : P (bif b then x else y) := by
  cases b
  · exact h2 rfl
  · exact h1 rfl
/-- a method is in the tables: its code, its class, how it is found -/
def abOk (m : abMt) : Prop := Cond.code m.1 m.2.1 m.2.2.1 m.2.2.2.1 ∈ lw_tbl ∧ Cond.initialized m.1.cls ∈ lw_tbl ∧ abR m.2.2.2.2.1 = m.1.cls ∧ (m.1.cls ≠ "java/lang/invoke/MethodHandle" ∧ m.1.cls ≠ "java/lang/invoke/VarHandle") ∧ plainName m.1.cls = true ∧ m.2.2.1 ≤ 19 ∧ (m.2.2.2.2.2.1 = 0 → Cond.static m.1 ∈ lw_tbl) ∧ (m.2.2.2.2.2.1 ≠ 0 → Cond.instanceMethod m.1 ∈ lw_tbl) ∧ (m.2.2.2.2.2.1 = 1 → Cond.selects m.1.cls m.1 m.1 ∈ lw_tbl) ∧ (m.2.2.2.2.2.1 = 2 → m.1.name = "<init>") ∧ (parseMethodDescriptor m.1.desc).map (fun d => d.parameters.length) = some m.2.2.2.2.2.2
theorem ab_t0 {w : Cond} (h : w ∈ k2_sels lw_privs) : w ∈ lw_tbl := List.mem_append_left _ h
theorem ab_tt {w : Cond} (h : w ∈ tables_1) : w ∈ lw_tbl := List.mem_append_right _ h
theorem ab_t1 {w : Cond} (h : w ∈ tables_1_1) : w ∈ lw_tbl := ab_tt (List.mem_append_left _ h)
theorem ab_t2 {w : Cond} (h : w ∈ tables_1_2) : w ∈ lw_tbl := ab_tt (List.mem_append_right _ (List.mem_append_left _ h))
theorem ab_t3 {w : Cond} (h : w ∈ tables_1_3) : w ∈ lw_tbl := ab_tt (List.mem_append_right _ (List.mem_append_right _ (List.mem_append_left _ h)))
theorem ab_t4 {w : Cond} (h : w ∈ tables_1_4) : w ∈ lw_tbl := ab_tt (List.mem_append_right _ (List.mem_append_right _ (List.mem_append_right _ (List.mem_append_left _ h))))
theorem ab_t5 {w : Cond} (h : w ∈ tables_1_5) : w ∈ lw_tbl := ab_tt (List.mem_append_right _ (List.mem_append_right _ (List.mem_append_right _ (List.mem_append_right _ (List.mem_append_left _ h)))))
theorem ab_t6 {w : Cond} (h : w ∈ tables_1_6) : w ∈ lw_tbl := ab_tt (List.mem_append_right _ (List.mem_append_right _ (List.mem_append_right _ (List.mem_append_right _ (List.mem_append_right _ (List.mem_append_left _ h))))))
theorem ab_t7 {w : Cond} (h : w ∈ tables_1_7) : w ∈ lw_tbl := ab_tt (List.mem_append_right _ (List.mem_append_right _ (List.mem_append_right _ (List.mem_append_right _ (List.mem_append_right _ (List.mem_append_right _ (List.mem_append_left _ h)))))))
theorem ab_t8 {w : Cond} (h : w ∈ tables_1_8) : w ∈ lw_tbl := ab_tt (List.mem_append_right _ (List.mem_append_right _ (List.mem_append_right _ (List.mem_append_right _ (List.mem_append_right _ (List.mem_append_right _ (List.mem_append_right _ h)))))))
set_option maxRecDepth 10000 in
theorem abok_0 : abOk abm_0 := ⟨ab_t1 (List.mem_of_getElem? (i := 188) rfl), (ab_t1 (List.mem_of_getElem? (i := 8) rfl)), rfl, by decide +kernel, by decide +kernel, by decide +kernel, (fun h => absurd h (by decide)), (fun _ => (ab_t1 (List.mem_of_getElem? (i := 187) rfl))), (fun h => absurd h (by decide)), (fun _ => rfl), by decide +kernel⟩
set_option maxRecDepth 10000 in
theorem abok_1 : abOk abm_1 := ⟨ab_t4 (List.mem_of_getElem? (i := 135) rfl), (ab_t1 (List.mem_of_getElem? (i := 8) rfl)), rfl, by decide +kernel, by decide +kernel, by decide +kernel, (fun h => absurd h (by decide)), (fun _ => (ab_t4 (List.mem_of_getElem? (i := 134) rfl))), (fun _ => ab_t0 (List.mem_of_getElem? (i := 62) rfl)), (fun h => absurd h (by decide)), by decide +kernel⟩
set_option maxRecDepth 10000 in
theorem abok_2 : abOk abm_2 := ⟨ab_t4 (List.mem_of_getElem? (i := 199) rfl), (ab_t1 (List.mem_of_getElem? (i := 8) rfl)), rfl, by decide +kernel, by decide +kernel, by decide +kernel, (fun h => absurd h (by decide)), (fun _ => (ab_t4 (List.mem_of_getElem? (i := 198) rfl))), (fun _ => ab_t0 (List.mem_of_getElem? (i := 71) rfl)), (fun h => absurd h (by decide)), by decide +kernel⟩
set_option maxRecDepth 10000 in
theorem abok_3 : abOk abm_3 := ⟨ab_t4 (List.mem_of_getElem? (i := 207) rfl), (ab_t1 (List.mem_of_getElem? (i := 8) rfl)), rfl, by decide +kernel, by decide +kernel, by decide +kernel, (fun h => absurd h (by decide)), (fun _ => (ab_t4 (List.mem_of_getElem? (i := 206) rfl))), (fun _ => ab_t0 (List.mem_of_getElem? (i := 72) rfl)), (fun h => absurd h (by decide)), by decide +kernel⟩
set_option maxRecDepth 10000 in
theorem abok_4 : abOk abm_4 := ⟨ab_t4 (List.mem_of_getElem? (i := 202) rfl), (ab_t1 (List.mem_of_getElem? (i := 8) rfl)), rfl, by decide +kernel, by decide +kernel, by decide +kernel, (fun _ => (ab_t4 (List.mem_of_getElem? (i := 201) rfl))), (fun h => absurd rfl h), (fun h => absurd h (by decide)), (fun h => absurd h (by decide)), by decide +kernel⟩
set_option maxRecDepth 10000 in
theorem abok_5 : abOk abm_5 := ⟨ab_t1 (List.mem_of_getElem? (i := 182) rfl), (ab_t1 (List.mem_of_getElem? (i := 7) rfl)), rfl, by decide +kernel, by decide +kernel, by decide +kernel, (fun h => absurd h (by decide)), (fun _ => (ab_t1 (List.mem_of_getElem? (i := 181) rfl))), (fun h => absurd h (by decide)), (fun _ => rfl), by decide +kernel⟩
set_option maxRecDepth 10000 in
theorem abok_6 : abOk abm_6 := ⟨ab_t4 (List.mem_of_getElem? (i := 131) rfl), (ab_t1 (List.mem_of_getElem? (i := 7) rfl)), rfl, by decide +kernel, by decide +kernel, by decide +kernel, (fun h => absurd h (by decide)), (fun _ => (ab_t4 (List.mem_of_getElem? (i := 130) rfl))), (fun _ => ab_t0 (List.mem_of_getElem? (i := 61) rfl)), (fun h => absurd h (by decide)), by decide +kernel⟩
set_option maxRecDepth 10000 in
theorem abok_7 : abOk abm_7 := ⟨ab_t4 (List.mem_of_getElem? (i := 141) rfl), (ab_t1 (List.mem_of_getElem? (i := 7) rfl)), rfl, by decide +kernel, by decide +kernel, by decide +kernel, (fun h => absurd h (by decide)), (fun _ => (ab_t4 (List.mem_of_getElem? (i := 140) rfl))), (fun _ => ab_t0 (List.mem_of_getElem? (i := 63) rfl)), (fun h => absurd h (by decide)), by decide +kernel⟩
set_option maxRecDepth 10000 in
theorem abok_8 : abOk abm_8 := ⟨ab_t4 (List.mem_of_getElem? (i := 148) rfl), (ab_t1 (List.mem_of_getElem? (i := 7) rfl)), rfl, by decide +kernel, by decide +kernel, by decide +kernel, (fun h => absurd h (by decide)), (fun _ => (ab_t4 (List.mem_of_getElem? (i := 147) rfl))), (fun _ => ab_t0 (List.mem_of_getElem? (i := 64) rfl)), (fun h => absurd h (by decide)), by decide +kernel⟩
set_option maxRecDepth 10000 in
theorem abok_9 : abOk abm_9 := ⟨ab_t4 (List.mem_of_getElem? (i := 152) rfl), (ab_t1 (List.mem_of_getElem? (i := 7) rfl)), rfl, by decide +kernel, by decide +kernel, by decide +kernel, (fun h => absurd h (by decide)), (fun _ => (ab_t4 (List.mem_of_getElem? (i := 151) rfl))), (fun _ => ab_t0 (List.mem_of_getElem? (i := 65) rfl)), (fun h => absurd h (by decide)), by decide +kernel⟩
set_option maxRecDepth 10000 in
theorem abok_10 : abOk abm_10 := ⟨ab_t4 (List.mem_of_getElem? (i := 160) rfl), (ab_t1 (List.mem_of_getElem? (i := 7) rfl)), rfl, by decide +kernel, by decide +kernel, by decide +kernel, (fun h => absurd h (by decide)), (fun _ => (ab_t4 (List.mem_of_getElem? (i := 159) rfl))), (fun _ => ab_t0 (List.mem_of_getElem? (i := 66) rfl)), (fun h => absurd h (by decide)), by decide +kernel⟩
set_option maxRecDepth 10000 in
theorem abok_11 : abOk abm_11 := ⟨ab_t4 (List.mem_of_getElem? (i := 173) rfl), (ab_t1 (List.mem_of_getElem? (i := 7) rfl)), rfl, by decide +kernel, by decide +kernel, by decide +kernel, (fun h => absurd h (by decide)), (fun _ => (ab_t4 (List.mem_of_getElem? (i := 172) rfl))), (fun _ => ab_t0 (List.mem_of_getElem? (i := 67) rfl)), (fun h => absurd h (by decide)), by decide +kernel⟩
set_option maxRecDepth 10000 in
theorem abok_12 : abOk abm_12 := ⟨ab_t4 (List.mem_of_getElem? (i := 194) rfl), (ab_t1 (List.mem_of_getElem? (i := 7) rfl)), rfl, by decide +kernel, by decide +kernel, by decide +kernel, (fun h => absurd h (by decide)), (fun _ => (ab_t4 (List.mem_of_getElem? (i := 193) rfl))), (fun _ => ab_t0 (List.mem_of_getElem? (i := 70) rfl)), (fun h => absurd h (by decide)), by decide +kernel⟩
set_option maxRecDepth 10000 in
theorem abok_13 : abOk abm_13 := ⟨ab_t4 (List.mem_of_getElem? (i := 190) rfl), (ab_t1 (List.mem_of_getElem? (i := 7) rfl)), rfl, by decide +kernel, by decide +kernel, by decide +kernel, (fun h => absurd h (by decide)), (fun _ => (ab_t4 (List.mem_of_getElem? (i := 189) rfl))), (fun _ => ab_t0 (List.mem_of_getElem? (i := 69) rfl)), (fun h => absurd h (by decide)), by decide +kernel⟩
set_option maxRecDepth 10000 in
theorem abok_14 : abOk abm_14 := ⟨ab_t1 (List.mem_of_getElem? (i := 162) rfl), (ab_t1 (List.mem_of_getElem? (i := 6) rfl)), rfl, by decide +kernel, by decide +kernel, by decide +kernel, (fun h => absurd h (by decide)), (fun _ => (ab_t1 (List.mem_of_getElem? (i := 161) rfl))), (fun h => absurd h (by decide)), (fun _ => rfl), by decide +kernel⟩
set_option maxRecDepth 10000 in
theorem abok_15 : abOk abm_15 := ⟨ab_t3 (List.mem_of_getElem? (i := 202) rfl), (ab_t1 (List.mem_of_getElem? (i := 6) rfl)), rfl, by decide +kernel, by decide +kernel, by decide +kernel, (fun h => absurd h (by decide)), (fun _ => (ab_t3 (List.mem_of_getElem? (i := 201) rfl))), (fun _ => ab_t0 (List.mem_of_getElem? (i := 47) rfl)), (fun h => absurd h (by decide)), by decide +kernel⟩
set_option maxRecDepth 10000 in
theorem abok_16 : abOk abm_16 := ⟨ab_t5 (List.mem_of_getElem? (i := 44) rfl), (ab_t1 (List.mem_of_getElem? (i := 6) rfl)), rfl, by decide +kernel, by decide +kernel, by decide +kernel, (fun h => absurd h (by decide)), (fun _ => (ab_t5 (List.mem_of_getElem? (i := 43) rfl))), (fun _ => ab_t0 (List.mem_of_getElem? (i := 79) rfl)), (fun h => absurd h (by decide)), by decide +kernel⟩
set_option maxRecDepth 10000 in
theorem abok_17 : abOk abm_17 := ⟨ab_t5 (List.mem_of_getElem? (i := 78) rfl), (ab_t1 (List.mem_of_getElem? (i := 6) rfl)), rfl, by decide +kernel, by decide +kernel, by decide +kernel, (fun h => absurd h (by decide)), (fun _ => (ab_t5 (List.mem_of_getElem? (i := 77) rfl))), (fun _ => ab_t0 (List.mem_of_getElem? (i := 81) rfl)), (fun h => absurd h (by decide)), by decide +kernel⟩
set_option maxRecDepth 10000 in
theorem abok_18 : abOk abm_18 := ⟨ab_t1 (List.mem_of_getElem? (i := 72) rfl), (ab_t1 (List.mem_of_getElem? (i := 4) rfl)), rfl, by decide +kernel, by decide +kernel, by decide +kernel, (fun h => absurd h (by decide)), (fun _ => (ab_t1 (List.mem_of_getElem? (i := 71) rfl))), (fun h => absurd h (by decide)), (fun _ => rfl), by decide +kernel⟩
set_option maxRecDepth 10000 in
theorem abok_19 : abOk abm_19 := ⟨ab_t3 (List.mem_of_getElem? (i := 79) rfl), (ab_t1 (List.mem_of_getElem? (i := 4) rfl)), rfl, by decide +kernel, by decide +kernel, by decide +kernel, (fun h => absurd h (by decide)), (fun _ => (ab_t3 (List.mem_of_getElem? (i := 78) rfl))), (fun _ => ab_t0 (List.mem_of_getElem? (i := 24) rfl)), (fun h => absurd h (by decide)), by decide +kernel⟩
set_option maxRecDepth 10000 in
theorem abok_20 : abOk abm_20 := ⟨ab_t3 (List.mem_of_getElem? (i := 100) rfl), (ab_t1 (List.mem_of_getElem? (i := 4) rfl)), rfl, by decide +kernel, by decide +kernel, by decide +kernel, (fun h => absurd h (by decide)), (fun _ => (ab_t3 (List.mem_of_getElem? (i := 99) rfl))), (fun _ => ab_t0 (List.mem_of_getElem? (i := 28) rfl)), (fun h => absurd h (by decide)), by decide +kernel⟩
set_option maxRecDepth 10000 in
theorem abok_21 : abOk abm_21 := ⟨ab_t3 (List.mem_of_getElem? (i := 93) rfl), (ab_t1 (List.mem_of_getElem? (i := 4) rfl)), rfl, by decide +kernel, by decide +kernel, by decide +kernel, (fun h => absurd h (by decide)), (fun _ => (ab_t3 (List.mem_of_getElem? (i := 92) rfl))), (fun _ => ab_t0 (List.mem_of_getElem? (i := 27) rfl)), (fun h => absurd h (by decide)), by decide +kernel⟩
set_option maxRecDepth 10000 in
theorem abok_22 : abOk abm_22 := ⟨ab_t3 (List.mem_of_getElem? (i := 110) rfl), (ab_t1 (List.mem_of_getElem? (i := 4) rfl)), rfl, by decide +kernel, by decide +kernel, by decide +kernel, (fun h => absurd h (by decide)), (fun _ => (ab_t3 (List.mem_of_getElem? (i := 109) rfl))), (fun _ => ab_t0 (List.mem_of_getElem? (i := 30) rfl)), (fun h => absurd h (by decide)), by decide +kernel⟩
set_option maxRecDepth 10000 in
theorem abok_23 : abOk abm_23 := ⟨ab_t3 (List.mem_of_getElem? (i := 118) rfl), (ab_t1 (List.mem_of_getElem? (i := 4) rfl)), rfl, by decide +kernel, by decide +kernel, by decide +kernel, (fun h => absurd h (by decide)), (fun _ => (ab_t3 (List.mem_of_getElem? (i := 117) rfl))), (fun _ => ab_t0 (List.mem_of_getElem? (i := 32) rfl)), (fun h => absurd h (by decide)), by decide +kernel⟩
set_option maxRecDepth 10000 in
theorem abok_24 : abOk abm_24 := ⟨ab_t3 (List.mem_of_getElem? (i := 138) rfl), (ab_t1 (List.mem_of_getElem? (i := 4) rfl)), rfl, by decide +kernel, by decide +kernel, by decide +kernel, (fun h => absurd h (by decide)), (fun _ => (ab_t3 (List.mem_of_getElem? (i := 137) rfl))), (fun _ => ab_t0 (List.mem_of_getElem? (i := 35) rfl)), (fun h => absurd h (by decide)), by decide +kernel⟩
set_option maxRecDepth 10000 in
theorem abok_25 : abOk abm_25 := ⟨ab_t1 (List.mem_of_getElem? (i := 235) rfl), (ab_t1 (List.mem_of_getElem? (i := 9) rfl)), rfl, by decide +kernel, by decide +kernel, by decide +kernel, (fun h => absurd h (by decide)), (fun _ => (ab_t1 (List.mem_of_getElem? (i := 234) rfl))), (fun h => absurd h (by decide)), (fun _ => rfl), by decide +kernel⟩
set_option maxRecDepth 10000 in
theorem abok_26 : abOk abm_26 := ⟨ab_t4 (List.mem_of_getElem? (i := 81) rfl), (ab_t1 (List.mem_of_getElem? (i := 9) rfl)), rfl, by decide +kernel, by decide +kernel, by decide +kernel, (fun h => absurd h (by decide)), (fun _ => (ab_t4 (List.mem_of_getElem? (i := 80) rfl))), (fun _ => ab_t0 (List.mem_of_getElem? (i := 53) rfl)), (fun h => absurd h (by decide)), by decide +kernel⟩
set_option maxRecDepth 10000 in
theorem abok_27 : abOk abm_27 := ⟨ab_t4 (List.mem_of_getElem? (i := 85) rfl), (ab_t1 (List.mem_of_getElem? (i := 9) rfl)), rfl, by decide +kernel, by decide +kernel, by decide +kernel, (fun h => absurd h (by decide)), (fun _ => (ab_t4 (List.mem_of_getElem? (i := 84) rfl))), (fun _ => ab_t0 (List.mem_of_getElem? (i := 54) rfl)), (fun h => absurd h (by decide)), by decide +kernel⟩
set_option maxRecDepth 10000 in
theorem abok_28 : abOk abm_28 := ⟨ab_t4 (List.mem_of_getElem? (i := 110) rfl), (ab_t1 (List.mem_of_getElem? (i := 9) rfl)), rfl, by decide +kernel, by decide +kernel, by decide +kernel, (fun h => absurd h (by decide)), (fun _ => (ab_t4 (List.mem_of_getElem? (i := 109) rfl))), (fun _ => ab_t0 (List.mem_of_getElem? (i := 60) rfl)), (fun h => absurd h (by decide)), by decide +kernel⟩
set_option maxRecDepth 10000 in
theorem abok_29 : abOk abm_29 := ⟨ab_t4 (List.mem_of_getElem? (i := 102) rfl), (ab_t1 (List.mem_of_getElem? (i := 9) rfl)), rfl, by decide +kernel, by decide +kernel, by decide +kernel, (fun h => absurd h (by decide)), (fun _ => (ab_t4 (List.mem_of_getElem? (i := 101) rfl))), (fun _ => ab_t0 (List.mem_of_getElem? (i := 58) rfl)), (fun h => absurd h (by decide)), by decide +kernel⟩
set_option maxRecDepth 10000 in
theorem abok_30 : abOk abm_30 := ⟨ab_t4 (List.mem_of_getElem? (i := 89) rfl), (ab_t1 (List.mem_of_getElem? (i := 9) rfl)), rfl, by decide +kernel, by decide +kernel, by decide +kernel, (fun h => absurd h (by decide)), (fun _ => (ab_t4 (List.mem_of_getElem? (i := 88) rfl))), (fun _ => ab_t0 (List.mem_of_getElem? (i := 55) rfl)), (fun h => absurd h (by decide)), by decide +kernel⟩
set_option maxRecDepth 10000 in
theorem abok_31 : abOk abm_31 := ⟨ab_t4 (List.mem_of_getElem? (i := 93) rfl), (ab_t1 (List.mem_of_getElem? (i := 9) rfl)), rfl, by decide +kernel, by decide +kernel, by decide +kernel, (fun h => absurd h (by decide)), (fun _ => (ab_t4 (List.mem_of_getElem? (i := 92) rfl))), (fun _ => ab_t0 (List.mem_of_getElem? (i := 56) rfl)), (fun h => absurd h (by decide)), by decide +kernel⟩
set_option maxRecDepth 10000 in
theorem abok_32 : abOk abm_32 := ⟨ab_t4 (List.mem_of_getElem? (i := 98) rfl), (ab_t1 (List.mem_of_getElem? (i := 9) rfl)), rfl, by decide +kernel, by decide +kernel, by decide +kernel, (fun h => absurd h (by decide)), (fun _ => (ab_t4 (List.mem_of_getElem? (i := 97) rfl))), (fun _ => ab_t0 (List.mem_of_getElem? (i := 57) rfl)), (fun h => absurd h (by decide)), by decide +kernel⟩
set_option maxRecDepth 10000 in
theorem abok_33 : abOk abm_33 := ⟨ab_t4 (List.mem_of_getElem? (i := 106) rfl), (ab_t1 (List.mem_of_getElem? (i := 9) rfl)), rfl, by decide +kernel, by decide +kernel, by decide +kernel, (fun h => absurd h (by decide)), (fun _ => (ab_t4 (List.mem_of_getElem? (i := 105) rfl))), (fun _ => ab_t0 (List.mem_of_getElem? (i := 59) rfl)), (fun h => absurd h (by decide)), by decide +kernel⟩
set_option maxRecDepth 10000 in
theorem abok_34 : abOk abm_34 := ⟨ab_t1 (List.mem_of_getElem? (i := 66) rfl), (ab_t1 (List.mem_of_getElem? (i := 3) rfl)), rfl, by decide +kernel, by decide +kernel, by decide +kernel, (fun h => absurd h (by decide)), (fun _ => (ab_t1 (List.mem_of_getElem? (i := 65) rfl))), (fun h => absurd h (by decide)), (fun _ => rfl), by decide +kernel⟩
set_option maxRecDepth 10000 in
theorem abok_35 : abOk abm_35 := ⟨ab_t2 (List.mem_of_getElem? (i := 170) rfl), (ab_t1 (List.mem_of_getElem? (i := 3) rfl)), rfl, by decide +kernel, by decide +kernel, by decide +kernel, (fun h => absurd h (by decide)), (fun _ => (ab_t2 (List.mem_of_getElem? (i := 169) rfl))), (fun _ => ab_t0 (List.mem_of_getElem? (i := 1) rfl)), (fun h => absurd h (by decide)), by decide +kernel⟩
set_option maxRecDepth 10000 in
theorem abok_36 : abOk abm_36 := ⟨ab_t3 (List.mem_of_getElem? (i := 40) rfl), (ab_t1 (List.mem_of_getElem? (i := 3) rfl)), rfl, by decide +kernel, by decide +kernel, by decide +kernel, (fun h => absurd h (by decide)), (fun _ => (ab_t3 (List.mem_of_getElem? (i := 39) rfl))), (fun _ => ab_t0 (List.mem_of_getElem? (i := 16) rfl)), (fun h => absurd h (by decide)), by decide +kernel⟩
set_option maxRecDepth 10000 in
theorem abok_37 : abOk abm_37 := ⟨ab_t3 (List.mem_of_getElem? (i := 44) rfl), (ab_t1 (List.mem_of_getElem? (i := 3) rfl)), rfl, by decide +kernel, by decide +kernel, by decide +kernel, (fun h => absurd h (by decide)), (fun _ => (ab_t3 (List.mem_of_getElem? (i := 43) rfl))), (fun _ => ab_t0 (List.mem_of_getElem? (i := 17) rfl)), (fun h => absurd h (by decide)), by decide +kernel⟩
set_option maxRecDepth 10000 in
theorem abok_38 : abOk abm_38 := ⟨ab_t3 (List.mem_of_getElem? (i := 53) rfl), (ab_t1 (List.mem_of_getElem? (i := 3) rfl)), rfl, by decide +kernel, by decide +kernel, by decide +kernel, (fun h => absurd h (by decide)), (fun _ => (ab_t3 (List.mem_of_getElem? (i := 52) rfl))), (fun _ => ab_t0 (List.mem_of_getElem? (i := 18) rfl)), (fun h => absurd h (by decide)), by decide +kernel⟩
set_option maxRecDepth 10000 in
theorem abok_39 : abOk abm_39 := ⟨ab_t3 (List.mem_of_getElem? (i := 24) rfl), (ab_t1 (List.mem_of_getElem? (i := 3) rfl)), rfl, by decide +kernel, by decide +kernel, by decide +kernel, (fun h => absurd h (by decide)), (fun _ => (ab_t3 (List.mem_of_getElem? (i := 23) rfl))), (fun _ => ab_t0 (List.mem_of_getElem? (i := 12) rfl)), (fun h => absurd h (by decide)), by decide +kernel⟩
set_option maxRecDepth 10000 in
theorem abok_40 : abOk abm_40 := ⟨ab_t2 (List.mem_of_getElem? (i := 186) rfl), (ab_t1 (List.mem_of_getElem? (i := 3) rfl)), rfl, by decide +kernel, by decide +kernel, by decide +kernel, (fun h => absurd h (by decide)), (fun _ => (ab_t2 (List.mem_of_getElem? (i := 185) rfl))), (fun _ => ab_t0 (List.mem_of_getElem? (i := 5) rfl)), (fun h => absurd h (by decide)), by decide +kernel⟩
set_option maxRecDepth 10000 in
theorem abok_41 : abOk abm_41 := ⟨ab_t3 (List.mem_of_getElem? (i := 57) rfl), (ab_t1 (List.mem_of_getElem? (i := 3) rfl)), rfl, by decide +kernel, by decide +kernel, by decide +kernel, (fun h => absurd h (by decide)), (fun _ => (ab_t3 (List.mem_of_getElem? (i := 56) rfl))), (fun _ => ab_t0 (List.mem_of_getElem? (i := 19) rfl)), (fun h => absurd h (by decide)), by decide +kernel⟩
set_option maxRecDepth 10000 in
theorem abok_42 : abOk abm_42 := ⟨ab_t3 (List.mem_of_getElem? (i := 122) rfl), (ab_t1 (List.mem_of_getElem? (i := 3) rfl)), rfl, by decide +kernel, by decide +kernel, by decide +kernel, (fun h => absurd h (by decide)), (fun _ => (ab_t3 (List.mem_of_getElem? (i := 121) rfl))), (fun _ => ab_t0 (List.mem_of_getElem? (i := 33) rfl)), (fun h => absurd h (by decide)), by decide +kernel⟩
set_option maxRecDepth 10000 in
theorem abok_43 : abOk abm_43 := ⟨ab_t3 (List.mem_of_getElem? (i := 83) rfl), (ab_t1 (List.mem_of_getElem? (i := 3) rfl)), rfl, by decide +kernel, by decide +kernel, by decide +kernel, (fun h => absurd h (by decide)), (fun _ => (ab_t3 (List.mem_of_getElem? (i := 82) rfl))), (fun _ => ab_t0 (List.mem_of_getElem? (i := 25) rfl)), (fun h => absurd h (by decide)), by decide +kernel⟩
set_option maxRecDepth 10000 in
theorem abok_44 : abOk abm_44 := ⟨ab_t3 (List.mem_of_getElem? (i := 88) rfl), (ab_t1 (List.mem_of_getElem? (i := 3) rfl)), rfl, by decide +kernel, by decide +kernel, by decide +kernel, (fun h => absurd h (by decide)), (fun _ => (ab_t3 (List.mem_of_getElem? (i := 87) rfl))), (fun _ => ab_t0 (List.mem_of_getElem? (i := 26) rfl)), (fun h => absurd h (by decide)), by decide +kernel⟩
set_option maxRecDepth 10000 in
theorem abok_45 : abOk abm_45 := ⟨ab_t3 (List.mem_of_getElem? (i := 106) rfl), (ab_t1 (List.mem_of_getElem? (i := 3) rfl)), rfl, by decide +kernel, by decide +kernel, by decide +kernel, (fun h => absurd h (by decide)), (fun _ => (ab_t3 (List.mem_of_getElem? (i := 105) rfl))), (fun _ => ab_t0 (List.mem_of_getElem? (i := 29) rfl)), (fun h => absurd h (by decide)), by decide +kernel⟩
set_option maxRecDepth 10000 in
theorem abok_46 : abOk abm_46 := ⟨ab_t3 (List.mem_of_getElem? (i := 114) rfl), (ab_t1 (List.mem_of_getElem? (i := 3) rfl)), rfl, by decide +kernel, by decide +kernel, by decide +kernel, (fun h => absurd h (by decide)), (fun _ => (ab_t3 (List.mem_of_getElem? (i := 113) rfl))), (fun _ => ab_t0 (List.mem_of_getElem? (i := 31) rfl)), (fun h => absurd h (by decide)), by decide +kernel⟩
set_option maxRecDepth 10000 in
theorem abok_47 : abOk abm_47 := ⟨ab_t3 (List.mem_of_getElem? (i := 149) rfl), (ab_t1 (List.mem_of_getElem? (i := 3) rfl)), rfl, by decide +kernel, by decide +kernel, by decide +kernel, (fun h => absurd h (by decide)), (fun _ => (ab_t3 (List.mem_of_getElem? (i := 148) rfl))), (fun _ => ab_t0 (List.mem_of_getElem? (i := 37) rfl)), (fun h => absurd h (by decide)), by decide +kernel⟩
set_option maxRecDepth 10000 in
theorem abok_48 : abOk abm_48 := ⟨ab_t3 (List.mem_of_getElem? (i := 167) rfl), (ab_t1 (List.mem_of_getElem? (i := 3) rfl)), rfl, by decide +kernel, by decide +kernel, by decide +kernel, (fun h => absurd h (by decide)), (fun _ => (ab_t3 (List.mem_of_getElem? (i := 166) rfl))), (fun _ => ab_t0 (List.mem_of_getElem? (i := 40) rfl)), (fun h => absurd h (by decide)), by decide +kernel⟩
set_option maxRecDepth 10000 in
theorem abok_49 : abOk abm_49 := ⟨ab_t3 (List.mem_of_getElem? (i := 189) rfl), (ab_t1 (List.mem_of_getElem? (i := 3) rfl)), rfl, by decide +kernel, by decide +kernel, by decide +kernel, (fun h => absurd h (by decide)), (fun _ => (ab_t3 (List.mem_of_getElem? (i := 188) rfl))), (fun _ => ab_t0 (List.mem_of_getElem? (i := 44) rfl)), (fun h => absurd h (by decide)), by decide +kernel⟩
set_option maxRecDepth 10000 in
theorem abok_50 : abOk abm_50 := ⟨ab_t3 (List.mem_of_getElem? (i := 171) rfl), (ab_t1 (List.mem_of_getElem? (i := 3) rfl)), rfl, by decide +kernel, by decide +kernel, by decide +kernel, (fun h => absurd h (by decide)), (fun _ => (ab_t3 (List.mem_of_getElem? (i := 170) rfl))), (fun _ => ab_t0 (List.mem_of_getElem? (i := 41) rfl)), (fun h => absurd h (by decide)), by decide +kernel⟩
set_option maxRecDepth 10000 in
theorem abok_51 : abOk abm_51 := ⟨ab_t3 (List.mem_of_getElem? (i := 179) rfl), (ab_t1 (List.mem_of_getElem? (i := 3) rfl)), rfl, by decide +kernel, by decide +kernel, by decide +kernel, (fun h => absurd h (by decide)), (fun _ => (ab_t3 (List.mem_of_getElem? (i := 178) rfl))), (fun _ => ab_t0 (List.mem_of_getElem? (i := 42) rfl)), (fun h => absurd h (by decide)), by decide +kernel⟩
set_option maxRecDepth 10000 in
theorem abok_52 : abOk abm_52 := ⟨ab_t3 (List.mem_of_getElem? (i := 153) rfl), (ab_t1 (List.mem_of_getElem? (i := 3) rfl)), rfl, by decide +kernel, by decide +kernel, by decide +kernel, (fun h => absurd h (by decide)), (fun _ => (ab_t3 (List.mem_of_getElem? (i := 152) rfl))), (fun _ => ab_t0 (List.mem_of_getElem? (i := 38) rfl)), (fun h => absurd h (by decide)), by decide +kernel⟩
set_option maxRecDepth 10000 in
theorem abok_53 : abOk abm_53 := ⟨ab_t3 (List.mem_of_getElem? (i := 15) rfl), (ab_t1 (List.mem_of_getElem? (i := 3) rfl)), rfl, by decide +kernel, by decide +kernel, by decide +kernel, (fun h => absurd h (by decide)), (fun _ => (ab_t3 (List.mem_of_getElem? (i := 14) rfl))), (fun _ => ab_t0 (List.mem_of_getElem? (i := 10) rfl)), (fun h => absurd h (by decide)), by decide +kernel⟩
set_option maxRecDepth 10000 in
theorem abok_54 : abOk abm_54 := ⟨ab_t2 (List.mem_of_getElem? (i := 191) rfl), (ab_t1 (List.mem_of_getElem? (i := 3) rfl)), rfl, by decide +kernel, by decide +kernel, by decide +kernel, (fun h => absurd h (by decide)), (fun _ => (ab_t2 (List.mem_of_getElem? (i := 190) rfl))), (fun _ => ab_t0 (List.mem_of_getElem? (i := 6) rfl)), (fun h => absurd h (by decide)), by decide +kernel⟩
set_option maxRecDepth 10000 in
theorem abok_55 : abOk abm_55 := ⟨ab_t3 (List.mem_of_getElem? (i := 28) rfl), (ab_t1 (List.mem_of_getElem? (i := 3) rfl)), rfl, by decide +kernel, by decide +kernel, by decide +kernel, (fun h => absurd h (by decide)), (fun _ => (ab_t3 (List.mem_of_getElem? (i := 27) rfl))), (fun _ => ab_t0 (List.mem_of_getElem? (i := 13) rfl)), (fun h => absurd h (by decide)), by decide +kernel⟩
set_option maxRecDepth 10000 in
theorem abok_56 : abOk abm_56 := ⟨ab_t3 (List.mem_of_getElem? (i := 11) rfl), (ab_t1 (List.mem_of_getElem? (i := 3) rfl)), rfl, by decide +kernel, by decide +kernel, by decide +kernel, (fun h => absurd h (by decide)), (fun _ => (ab_t3 (List.mem_of_getElem? (i := 10) rfl))), (fun _ => ab_t0 (List.mem_of_getElem? (i := 9) rfl)), (fun h => absurd h (by decide)), by decide +kernel⟩
set_option maxRecDepth 10000 in
theorem abok_57 : abOk abm_57 := ⟨ab_t2 (List.mem_of_getElem? (i := 24) rfl), (ab_t1 (List.mem_of_getElem? (i := 10) rfl)), rfl, by decide +kernel, by decide +kernel, by decide +kernel, (fun h => absurd h (by decide)), (fun _ => (ab_t2 (List.mem_of_getElem? (i := 23) rfl))), (fun h => absurd h (by decide)), (fun _ => rfl), by decide +kernel⟩
set_option maxRecDepth 10000 in
theorem abok_58 : abOk abm_58 := ⟨ab_t2 (List.mem_of_getElem? (i := 174) rfl), (ab_t1 (List.mem_of_getElem? (i := 10) rfl)), rfl, by decide +kernel, by decide +kernel, by decide +kernel, (fun h => absurd h (by decide)), (fun _ => (ab_t2 (List.mem_of_getElem? (i := 173) rfl))), (fun _ => ab_t0 (List.mem_of_getElem? (i := 2) rfl)), (fun h => absurd h (by decide)), by decide +kernel⟩
set_option maxRecDepth 10000 in
theorem abok_59 : abOk abm_59 := ⟨ab_t3 (List.mem_of_getElem? (i := 230) rfl), (ab_t1 (List.mem_of_getElem? (i := 10) rfl)), rfl, by decide +kernel, by decide +kernel, by decide +kernel, (fun h => absurd h (by decide)), (fun _ => (ab_t3 (List.mem_of_getElem? (i := 229) rfl))), (fun _ => ab_t0 (List.mem_of_getElem? (i := 49) rfl)), (fun h => absurd h (by decide)), by decide +kernel⟩
set_option maxRecDepth 10000 in
theorem abok_60 : abOk abm_60 := ⟨ab_t4 (List.mem_of_getElem? (i := 37) rfl), (ab_t1 (List.mem_of_getElem? (i := 10) rfl)), rfl, by decide +kernel, by decide +kernel, by decide +kernel, (fun h => absurd h (by decide)), (fun _ => (ab_t4 (List.mem_of_getElem? (i := 36) rfl))), (fun _ => ab_t0 (List.mem_of_getElem? (i := 52) rfl)), (fun h => absurd h (by decide)), by decide +kernel⟩
set_option maxRecDepth 10000 in
theorem abok_61 : abOk abm_61 := ⟨ab_t3 (List.mem_of_getElem? (i := 70) rfl), (ab_t1 (List.mem_of_getElem? (i := 10) rfl)), rfl, by decide +kernel, by decide +kernel, by decide +kernel, (fun h => absurd h (by decide)), (fun _ => (ab_t3 (List.mem_of_getElem? (i := 69) rfl))), (fun _ => ab_t0 (List.mem_of_getElem? (i := 22) rfl)), (fun h => absurd h (by decide)), by decide +kernel⟩
set_option maxRecDepth 10000 in
theorem abok_62 : abOk abm_62 := ⟨ab_t3 (List.mem_of_getElem? (i := 74) rfl), (ab_t1 (List.mem_of_getElem? (i := 10) rfl)), rfl, by decide +kernel, by decide +kernel, by decide +kernel, (fun h => absurd h (by decide)), (fun _ => (ab_t3 (List.mem_of_getElem? (i := 73) rfl))), (fun _ => ab_t0 (List.mem_of_getElem? (i := 23) rfl)), (fun h => absurd h (by decide)), by decide +kernel⟩
set_option maxRecDepth 10000 in
theorem abok_63 : abOk abm_63 := ⟨ab_t3 (List.mem_of_getElem? (i := 128) rfl), (ab_t1 (List.mem_of_getElem? (i := 10) rfl)), rfl, by decide +kernel, by decide +kernel, by decide +kernel, (fun h => absurd h (by decide)), (fun _ => (ab_t3 (List.mem_of_getElem? (i := 127) rfl))), (fun _ => ab_t0 (List.mem_of_getElem? (i := 34) rfl)), (fun h => absurd h (by decide)), by decide +kernel⟩
set_option maxRecDepth 10000 in
theorem abok_64 : abOk abm_64 := ⟨ab_t3 (List.mem_of_getElem? (i := 142) rfl), (ab_t1 (List.mem_of_getElem? (i := 10) rfl)), rfl, by decide +kernel, by decide +kernel, by decide +kernel, (fun h => absurd h (by decide)), (fun _ => (ab_t3 (List.mem_of_getElem? (i := 141) rfl))), (fun _ => ab_t0 (List.mem_of_getElem? (i := 36) rfl)), (fun h => absurd h (by decide)), by decide +kernel⟩
set_option maxRecDepth 10000 in
theorem abok_65 : abOk abm_65 := ⟨ab_t3 (List.mem_of_getElem? (i := 160) rfl), (ab_t1 (List.mem_of_getElem? (i := 10) rfl)), rfl, by decide +kernel, by decide +kernel, by decide +kernel, (fun h => absurd h (by decide)), (fun _ => (ab_t3 (List.mem_of_getElem? (i := 159) rfl))), (fun _ => ab_t0 (List.mem_of_getElem? (i := 39) rfl)), (fun h => absurd h (by decide)), by decide +kernel⟩
set_option maxRecDepth 10000 in
theorem abok_66 : abOk abm_66 := ⟨ab_t3 (List.mem_of_getElem? (i := 185) rfl), (ab_t1 (List.mem_of_getElem? (i := 10) rfl)), rfl, by decide +kernel, by decide +kernel, by decide +kernel, (fun h => absurd h (by decide)), (fun _ => (ab_t3 (List.mem_of_getElem? (i := 184) rfl))), (fun _ => ab_t0 (List.mem_of_getElem? (i := 43) rfl)), (fun h => absurd h (by decide)), by decide +kernel⟩
set_option maxRecDepth 10000 in
theorem abok_67 : abOk abm_67 := ⟨ab_t3 (List.mem_of_getElem? (i := 193) rfl), (ab_t1 (List.mem_of_getElem? (i := 10) rfl)), rfl, by decide +kernel, by decide +kernel, by decide +kernel, (fun h => absurd h (by decide)), (fun _ => (ab_t3 (List.mem_of_getElem? (i := 192) rfl))), (fun _ => ab_t0 (List.mem_of_getElem? (i := 45) rfl)), (fun h => absurd h (by decide)), by decide +kernel⟩
set_option maxRecDepth 10000 in
theorem abok_68 : abOk abm_68 := ⟨ab_t1 (List.mem_of_getElem? (i := 143) rfl), (ab_t1 (List.mem_of_getElem? (i := 5) rfl)), rfl, by decide +kernel, by decide +kernel, by decide +kernel, (fun h => absurd h (by decide)), (fun _ => (ab_t1 (List.mem_of_getElem? (i := 142) rfl))), (fun h => absurd h (by decide)), (fun _ => rfl), by decide +kernel⟩
set_option maxRecDepth 10000 in
theorem abok_69 : abOk abm_69 := ⟨ab_t3 (List.mem_of_getElem? (i := 197) rfl), (ab_t1 (List.mem_of_getElem? (i := 5) rfl)), rfl, by decide +kernel, by decide +kernel, by decide +kernel, (fun h => absurd h (by decide)), (fun _ => (ab_t3 (List.mem_of_getElem? (i := 196) rfl))), (fun _ => ab_t0 (List.mem_of_getElem? (i := 46) rfl)), (fun h => absurd h (by decide)), by decide +kernel⟩
set_option maxRecDepth 10000 in
theorem abok_70 : abOk abm_70 := ⟨ab_t5 (List.mem_of_getElem? (i := 48) rfl), (ab_t1 (List.mem_of_getElem? (i := 5) rfl)), rfl, by decide +kernel, by decide +kernel, by decide +kernel, (fun h => absurd h (by decide)), (fun _ => (ab_t5 (List.mem_of_getElem? (i := 47) rfl))), (fun _ => ab_t0 (List.mem_of_getElem? (i := 80) rfl)), (fun h => absurd h (by decide)), by decide +kernel⟩
set_option maxRecDepth 10000 in
theorem abok_71 : abOk abm_71 := ⟨ab_t3 (List.mem_of_getElem? (i := 234) rfl), (ab_t1 (List.mem_of_getElem? (i := 5) rfl)), rfl, by decide +kernel, by decide +kernel, by decide +kernel, (fun h => absurd h (by decide)), (fun _ => (ab_t3 (List.mem_of_getElem? (i := 233) rfl))), (fun _ => ab_t0 (List.mem_of_getElem? (i := 50) rfl)), (fun h => absurd h (by decide)), by decide +kernel⟩
set_option maxRecDepth 10000 in
theorem abok_72 : abOk abm_72 := ⟨ab_t1 (List.mem_of_getElem? (i := 33) rfl), (ab_t1 (List.mem_of_getElem? (i := 2) rfl)), rfl, by decide +kernel, by decide +kernel, by decide +kernel, (fun h => absurd h (by decide)), (fun _ => (ab_t1 (List.mem_of_getElem? (i := 32) rfl))), (fun h => absurd h (by decide)), (fun _ => rfl), by decide +kernel⟩
set_option maxRecDepth 10000 in
theorem abok_73 : abOk abm_73 := ⟨ab_t2 (List.mem_of_getElem? (i := 158) rfl), (ab_t1 (List.mem_of_getElem? (i := 2) rfl)), rfl, by decide +kernel, by decide +kernel, by decide +kernel, (fun h => absurd h (by decide)), (fun _ => (ab_t2 (List.mem_of_getElem? (i := 157) rfl))), (fun _ => ab_t0 (List.mem_of_getElem? (i := 0) rfl)), (fun h => absurd h (by decide)), by decide +kernel⟩
set_option maxRecDepth 10000 in
theorem abok_74 : abOk abm_74 := ⟨ab_t2 (List.mem_of_getElem? (i := 178) rfl), (ab_t1 (List.mem_of_getElem? (i := 2) rfl)), rfl, by decide +kernel, by decide +kernel, by decide +kernel, (fun h => absurd h (by decide)), (fun _ => (ab_t2 (List.mem_of_getElem? (i := 177) rfl))), (fun _ => ab_t0 (List.mem_of_getElem? (i := 3) rfl)), (fun h => absurd h (by decide)), by decide +kernel⟩
set_option maxRecDepth 10000 in
theorem abok_75 : abOk abm_75 := ⟨ab_t2 (List.mem_of_getElem? (i := 182) rfl), (ab_t1 (List.mem_of_getElem? (i := 2) rfl)), rfl, by decide +kernel, by decide +kernel, by decide +kernel, (fun h => absurd h (by decide)), (fun _ => (ab_t2 (List.mem_of_getElem? (i := 181) rfl))), (fun _ => ab_t0 (List.mem_of_getElem? (i := 4) rfl)), (fun h => absurd h (by decide)), by decide +kernel⟩
set_option maxRecDepth 10000 in
theorem abok_76 : abOk abm_76 := ⟨ab_t3 (List.mem_of_getElem? (i := 36) rfl), (ab_t1 (List.mem_of_getElem? (i := 2) rfl)), rfl, by decide +kernel, by decide +kernel, by decide +kernel, (fun h => absurd h (by decide)), (fun _ => (ab_t3 (List.mem_of_getElem? (i := 35) rfl))), (fun _ => ab_t0 (List.mem_of_getElem? (i := 15) rfl)), (fun h => absurd h (by decide)), by decide +kernel⟩
set_option maxRecDepth 10000 in
theorem abok_77 : abOk abm_77 := ⟨ab_t2 (List.mem_of_getElem? (i := 199) rfl), (ab_t1 (List.mem_of_getElem? (i := 2) rfl)), rfl, by decide +kernel, by decide +kernel, by decide +kernel, (fun h => absurd h (by decide)), (fun _ => (ab_t2 (List.mem_of_getElem? (i := 198) rfl))), (fun _ => ab_t0 (List.mem_of_getElem? (i := 8) rfl)), (fun h => absurd h (by decide)), by decide +kernel⟩
set_option maxRecDepth 10000 in
theorem abok_78 : abOk abm_78 := ⟨ab_t3 (List.mem_of_getElem? (i := 32) rfl), (ab_t1 (List.mem_of_getElem? (i := 2) rfl)), rfl, by decide +kernel, by decide +kernel, by decide +kernel, (fun h => absurd h (by decide)), (fun _ => (ab_t3 (List.mem_of_getElem? (i := 31) rfl))), (fun _ => ab_t0 (List.mem_of_getElem? (i := 14) rfl)), (fun h => absurd h (by decide)), by decide +kernel⟩
set_option maxRecDepth 10000 in
theorem abok_79 : abOk abm_79 := ⟨ab_t2 (List.mem_of_getElem? (i := 195) rfl), (ab_t1 (List.mem_of_getElem? (i := 2) rfl)), rfl, by decide +kernel, by decide +kernel, by decide +kernel, (fun h => absurd h (by decide)), (fun _ => (ab_t2 (List.mem_of_getElem? (i := 194) rfl))), (fun _ => ab_t0 (List.mem_of_getElem? (i := 7) rfl)), (fun h => absurd h (by decide)), by decide +kernel⟩
set_option maxRecDepth 10000 in
theorem abok_80 : abOk abm_80 := ⟨ab_t3 (List.mem_of_getElem? (i := 61) rfl), (ab_t1 (List.mem_of_getElem? (i := 2) rfl)), rfl, by decide +kernel, by decide +kernel, by decide +kernel, (fun h => absurd h (by decide)), (fun _ => (ab_t3 (List.mem_of_getElem? (i := 60) rfl))), (fun _ => ab_t0 (List.mem_of_getElem? (i := 20) rfl)), (fun h => absurd h (by decide)), by decide +kernel⟩
set_option maxRecDepth 10000 in
theorem abok_81 : abOk abm_81 := ⟨ab_t3 (List.mem_of_getElem? (i := 65) rfl), (ab_t1 (List.mem_of_getElem? (i := 2) rfl)), rfl, by decide +kernel, by decide +kernel, by decide +kernel, (fun h => absurd h (by decide)), (fun _ => (ab_t3 (List.mem_of_getElem? (i := 64) rfl))), (fun _ => ab_t0 (List.mem_of_getElem? (i := 21) rfl)), (fun h => absurd h (by decide)), by decide +kernel⟩
set_option maxRecDepth 10000 in
theorem abok_82 : abOk abm_82 := ⟨ab_t3 (List.mem_of_getElem? (i := 19) rfl), (ab_t1 (List.mem_of_getElem? (i := 2) rfl)), rfl, by decide +kernel, by decide +kernel, by decide +kernel, (fun h => absurd h (by decide)), (fun _ => (ab_t3 (List.mem_of_getElem? (i := 18) rfl))), (fun _ => ab_t0 (List.mem_of_getElem? (i := 11) rfl)), (fun h => absurd h (by decide)), by decide +kernel⟩
set_option maxRecDepth 10000 in
theorem abok_83 : abOk abm_83 := ⟨ab_t1 (List.mem_of_getElem? (i := 25) rfl), (ab_t1 (List.mem_of_getElem? (i := 1) rfl)), rfl, by decide +kernel, by decide +kernel, by decide +kernel, (fun h => absurd h (by decide)), (fun _ => (ab_t1 (List.mem_of_getElem? (i := 24) rfl))), (fun h => absurd h (by decide)), (fun _ => rfl), by decide +kernel⟩
set_option maxRecDepth 10000 in
theorem abok_84 : abOk abm_84 := ⟨ab_t2 (List.mem_of_getElem? (i := 154) rfl), (ab_t1 (List.mem_of_getElem? (i := 1) rfl)), rfl, by decide +kernel, by decide +kernel, by decide +kernel, (fun h => absurd h (by decide)), (fun _ => (ab_t2 (List.mem_of_getElem? (i := 152) rfl))), (fun _ => (ab_t2 (List.mem_of_getElem? (i := 153) rfl))), (fun h => absurd h (by decide)), by decide +kernel⟩
set_option maxRecDepth 10000 in
theorem abok_85 : abOk abm_85 := ⟨ab_t2 (List.mem_of_getElem? (i := 162) rfl), (ab_t1 (List.mem_of_getElem? (i := 1) rfl)), rfl, by decide +kernel, by decide +kernel, by decide +kernel, (fun h => absurd h (by decide)), (fun _ => (ab_t2 (List.mem_of_getElem? (i := 160) rfl))), (fun _ => (ab_t2 (List.mem_of_getElem? (i := 161) rfl))), (fun h => absurd h (by decide)), by decide +kernel⟩
set_option maxRecDepth 10000 in
theorem abok_86 : abOk abm_86 := ⟨ab_t2 (List.mem_of_getElem? (i := 166) rfl), (ab_t1 (List.mem_of_getElem? (i := 1) rfl)), rfl, by decide +kernel, by decide +kernel, by decide +kernel, (fun h => absurd h (by decide)), (fun _ => (ab_t2 (List.mem_of_getElem? (i := 164) rfl))), (fun _ => (ab_t2 (List.mem_of_getElem? (i := 165) rfl))), (fun h => absurd h (by decide)), by decide +kernel⟩
set_option maxRecDepth 10000 in
theorem abok_87 : abOk abm_87 := ⟨ab_t3 (List.mem_of_getElem? (i := 211) rfl), (ab_t1 (List.mem_of_getElem? (i := 1) rfl)), rfl, by decide +kernel, by decide +kernel, by decide +kernel, (fun h => absurd h (by decide)), (fun _ => (ab_t3 (List.mem_of_getElem? (i := 209) rfl))), (fun _ => (ab_t3 (List.mem_of_getElem? (i := 210) rfl))), (fun h => absurd h (by decide)), by decide +kernel⟩
set_option maxRecDepth 10000 in
theorem abok_88 : abOk abm_88 := ⟨ab_t3 (List.mem_of_getElem? (i := 215) rfl), (ab_t1 (List.mem_of_getElem? (i := 1) rfl)), rfl, by decide +kernel, by decide +kernel, by decide +kernel, (fun h => absurd h (by decide)), (fun _ => (ab_t3 (List.mem_of_getElem? (i := 213) rfl))), (fun _ => (ab_t3 (List.mem_of_getElem? (i := 214) rfl))), (fun h => absurd h (by decide)), by decide +kernel⟩
set_option maxRecDepth 10000 in
theorem abok_89 : abOk abm_89 := ⟨ab_t3 (List.mem_of_getElem? (i := 222) rfl), (ab_t1 (List.mem_of_getElem? (i := 1) rfl)), rfl, by decide +kernel, by decide +kernel, by decide +kernel, (fun h => absurd h (by decide)), (fun _ => (ab_t3 (List.mem_of_getElem? (i := 220) rfl))), (fun _ => (ab_t3 (List.mem_of_getElem? (i := 221) rfl))), (fun h => absurd h (by decide)), by decide +kernel⟩
set_option maxRecDepth 10000 in
theorem abok_90 : abOk abm_90 := ⟨ab_t3 (List.mem_of_getElem? (i := 226) rfl), (ab_t1 (List.mem_of_getElem? (i := 1) rfl)), rfl, by decide +kernel, by decide +kernel, by decide +kernel, (fun h => absurd h (by decide)), (fun _ => (ab_t3 (List.mem_of_getElem? (i := 224) rfl))), (fun _ => (ab_t3 (List.mem_of_getElem? (i := 225) rfl))), (fun h => absurd h (by decide)), by decide +kernel⟩
set_option maxRecDepth 10000 in
theorem abok_91 : abOk abm_91 := ⟨ab_t4 (List.mem_of_getElem? (i := 21) rfl), (ab_t1 (List.mem_of_getElem? (i := 1) rfl)), rfl, by decide +kernel, by decide +kernel, by decide +kernel, (fun h => absurd h (by decide)), (fun _ => (ab_t4 (List.mem_of_getElem? (i := 19) rfl))), (fun _ => (ab_t4 (List.mem_of_getElem? (i := 20) rfl))), (fun h => absurd h (by decide)), by decide +kernel⟩
set_option maxRecDepth 10000 in
theorem abok_92 : abOk abm_92 := ⟨ab_t4 (List.mem_of_getElem? (i := 25) rfl), (ab_t1 (List.mem_of_getElem? (i := 1) rfl)), rfl, by decide +kernel, by decide +kernel, by decide +kernel, (fun h => absurd h (by decide)), (fun _ => (ab_t4 (List.mem_of_getElem? (i := 23) rfl))), (fun _ => (ab_t4 (List.mem_of_getElem? (i := 24) rfl))), (fun h => absurd h (by decide)), by decide +kernel⟩
set_option maxRecDepth 10000 in
theorem abok_93 : abOk abm_93 := ⟨ab_t4 (List.mem_of_getElem? (i := 29) rfl), (ab_t1 (List.mem_of_getElem? (i := 1) rfl)), rfl, by decide +kernel, by decide +kernel, by decide +kernel, (fun h => absurd h (by decide)), (fun _ => (ab_t4 (List.mem_of_getElem? (i := 27) rfl))), (fun _ => (ab_t4 (List.mem_of_getElem? (i := 28) rfl))), (fun h => absurd h (by decide)), by decide +kernel⟩
set_option maxRecDepth 10000 in
theorem abok_94 : abOk abm_94 := ⟨ab_t4 (List.mem_of_getElem? (i := 41) rfl), (ab_t1 (List.mem_of_getElem? (i := 1) rfl)), rfl, by decide +kernel, by decide +kernel, by decide +kernel, (fun h => absurd h (by decide)), (fun _ => (ab_t4 (List.mem_of_getElem? (i := 39) rfl))), (fun _ => (ab_t4 (List.mem_of_getElem? (i := 40) rfl))), (fun h => absurd h (by decide)), by decide +kernel⟩
set_option maxRecDepth 10000 in
theorem abok_95 : abOk abm_95 := ⟨ab_t4 (List.mem_of_getElem? (i := 45) rfl), (ab_t1 (List.mem_of_getElem? (i := 1) rfl)), rfl, by decide +kernel, by decide +kernel, by decide +kernel, (fun h => absurd h (by decide)), (fun _ => (ab_t4 (List.mem_of_getElem? (i := 43) rfl))), (fun _ => (ab_t4 (List.mem_of_getElem? (i := 44) rfl))), (fun h => absurd h (by decide)), by decide +kernel⟩
set_option maxRecDepth 10000 in
theorem abok_96 : abOk abm_96 := ⟨ab_t4 (List.mem_of_getElem? (i := 55) rfl), (ab_t1 (List.mem_of_getElem? (i := 1) rfl)), rfl, by decide +kernel, by decide +kernel, by decide +kernel, (fun h => absurd h (by decide)), (fun _ => (ab_t4 (List.mem_of_getElem? (i := 53) rfl))), (fun _ => (ab_t4 (List.mem_of_getElem? (i := 54) rfl))), (fun h => absurd h (by decide)), by decide +kernel⟩
set_option maxRecDepth 10000 in
theorem abok_97 : abOk abm_97 := ⟨ab_t4 (List.mem_of_getElem? (i := 62) rfl), (ab_t1 (List.mem_of_getElem? (i := 1) rfl)), rfl, by decide +kernel, by decide +kernel, by decide +kernel, (fun h => absurd h (by decide)), (fun _ => (ab_t4 (List.mem_of_getElem? (i := 60) rfl))), (fun _ => (ab_t4 (List.mem_of_getElem? (i := 61) rfl))), (fun h => absurd h (by decide)), by decide +kernel⟩
set_option maxRecDepth 10000 in
theorem abok_98 : abOk abm_98 := ⟨ab_t4 (List.mem_of_getElem? (i := 77) rfl), (ab_t1 (List.mem_of_getElem? (i := 1) rfl)), rfl, by decide +kernel, by decide +kernel, by decide +kernel, (fun h => absurd h (by decide)), (fun _ => (ab_t4 (List.mem_of_getElem? (i := 75) rfl))), (fun _ => (ab_t4 (List.mem_of_getElem? (i := 76) rfl))), (fun h => absurd h (by decide)), by decide +kernel⟩
set_option maxRecDepth 10000 in
theorem abok_99 : abOk abm_99 := ⟨ab_t4 (List.mem_of_getElem? (i := 115) rfl), (ab_t1 (List.mem_of_getElem? (i := 1) rfl)), rfl, by decide +kernel, by decide +kernel, by decide +kernel, (fun h => absurd h (by decide)), (fun _ => (ab_t4 (List.mem_of_getElem? (i := 113) rfl))), (fun _ => (ab_t4 (List.mem_of_getElem? (i := 114) rfl))), (fun h => absurd h (by decide)), by decide +kernel⟩
set_option maxRecDepth 10000 in
theorem abok_100 : abOk abm_100 := ⟨ab_t4 (List.mem_of_getElem? (i := 120) rfl), (ab_t1 (List.mem_of_getElem? (i := 1) rfl)), rfl, by decide +kernel, by decide +kernel, by decide +kernel, (fun h => absurd h (by decide)), (fun _ => (ab_t4 (List.mem_of_getElem? (i := 118) rfl))), (fun _ => (ab_t4 (List.mem_of_getElem? (i := 119) rfl))), (fun h => absurd h (by decide)), by decide +kernel⟩
set_option maxRecDepth 10000 in
theorem abok_101 : abOk abm_101 := ⟨ab_t4 (List.mem_of_getElem? (i := 124) rfl), (ab_t1 (List.mem_of_getElem? (i := 1) rfl)), rfl, by decide +kernel, by decide +kernel, by decide +kernel, (fun h => absurd h (by decide)), (fun _ => (ab_t4 (List.mem_of_getElem? (i := 122) rfl))), (fun _ => (ab_t4 (List.mem_of_getElem? (i := 123) rfl))), (fun h => absurd h (by decide)), by decide +kernel⟩
set_option maxRecDepth 10000 in
theorem abok_102 : abOk abm_102 := ⟨ab_t4 (List.mem_of_getElem? (i := 165) rfl), (ab_t1 (List.mem_of_getElem? (i := 1) rfl)), rfl, by decide +kernel, by decide +kernel, by decide +kernel, (fun h => absurd h (by decide)), (fun _ => (ab_t4 (List.mem_of_getElem? (i := 163) rfl))), (fun _ => (ab_t4 (List.mem_of_getElem? (i := 164) rfl))), (fun h => absurd h (by decide)), by decide +kernel⟩
set_option maxRecDepth 10000 in
theorem abok_103 : abOk abm_103 := ⟨ab_t4 (List.mem_of_getElem? (i := 169) rfl), (ab_t1 (List.mem_of_getElem? (i := 1) rfl)), rfl, by decide +kernel, by decide +kernel, by decide +kernel, (fun h => absurd h (by decide)), (fun _ => (ab_t4 (List.mem_of_getElem? (i := 167) rfl))), (fun _ => (ab_t4 (List.mem_of_getElem? (i := 168) rfl))), (fun h => absurd h (by decide)), by decide +kernel⟩
set_option maxRecDepth 10000 in
theorem abok_104 : abOk abm_104 := ⟨ab_t4 (List.mem_of_getElem? (i := 178) rfl), (ab_t1 (List.mem_of_getElem? (i := 1) rfl)), rfl, by decide +kernel, by decide +kernel, by decide +kernel, (fun h => absurd h (by decide)), (fun _ => (ab_t4 (List.mem_of_getElem? (i := 176) rfl))), (fun _ => (ab_t4 (List.mem_of_getElem? (i := 177) rfl))), (fun h => absurd h (by decide)), by decide +kernel⟩
set_option maxRecDepth 10000 in
theorem abok_105 : abOk abm_105 := ⟨ab_t4 (List.mem_of_getElem? (i := 182) rfl), (ab_t1 (List.mem_of_getElem? (i := 1) rfl)), rfl, by decide +kernel, by decide +kernel, by decide +kernel, (fun h => absurd h (by decide)), (fun _ => (ab_t4 (List.mem_of_getElem? (i := 180) rfl))), (fun _ => (ab_t4 (List.mem_of_getElem? (i := 181) rfl))), (fun h => absurd h (by decide)), by decide +kernel⟩
set_option maxRecDepth 10000 in
theorem abok_106 : abOk abm_106 := ⟨ab_t4 (List.mem_of_getElem? (i := 212) rfl), (ab_t1 (List.mem_of_getElem? (i := 1) rfl)), rfl, by decide +kernel, by decide +kernel, by decide +kernel, (fun h => absurd h (by decide)), (fun _ => (ab_t4 (List.mem_of_getElem? (i := 210) rfl))), (fun _ => (ab_t4 (List.mem_of_getElem? (i := 211) rfl))), (fun h => absurd h (by decide)), by decide +kernel⟩
set_option maxRecDepth 10000 in
theorem abok_107 : abOk abm_107 := ⟨ab_t4 (List.mem_of_getElem? (i := 224) rfl), (ab_t1 (List.mem_of_getElem? (i := 1) rfl)), rfl, by decide +kernel, by decide +kernel, by decide +kernel, (fun h => absurd h (by decide)), (fun _ => (ab_t4 (List.mem_of_getElem? (i := 222) rfl))), (fun _ => (ab_t4 (List.mem_of_getElem? (i := 223) rfl))), (fun h => absurd h (by decide)), by decide +kernel⟩
set_option maxRecDepth 10000 in
theorem abok_108 : abOk abm_108 := ⟨ab_t4 (List.mem_of_getElem? (i := 228) rfl), (ab_t1 (List.mem_of_getElem? (i := 1) rfl)), rfl, by decide +kernel, by decide +kernel, by decide +kernel, (fun h => absurd h (by decide)), (fun _ => (ab_t4 (List.mem_of_getElem? (i := 226) rfl))), (fun _ => (ab_t4 (List.mem_of_getElem? (i := 227) rfl))), (fun h => absurd h (by decide)), by decide +kernel⟩
set_option maxRecDepth 10000 in
theorem abok_109 : abOk abm_109 := ⟨ab_t4 (List.mem_of_getElem? (i := 232) rfl), (ab_t1 (List.mem_of_getElem? (i := 1) rfl)), rfl, by decide +kernel, by decide +kernel, by decide +kernel, (fun h => absurd h (by decide)), (fun _ => (ab_t4 (List.mem_of_getElem? (i := 230) rfl))), (fun _ => (ab_t4 (List.mem_of_getElem? (i := 231) rfl))), (fun h => absurd h (by decide)), by decide +kernel⟩
set_option maxRecDepth 10000 in
theorem abok_110 : abOk abm_110 := ⟨ab_t4 (List.mem_of_getElem? (i := 236) rfl), (ab_t1 (List.mem_of_getElem? (i := 1) rfl)), rfl, by decide +kernel, by decide +kernel, by decide +kernel, (fun h => absurd h (by decide)), (fun _ => (ab_t4 (List.mem_of_getElem? (i := 234) rfl))), (fun _ => (ab_t4 (List.mem_of_getElem? (i := 235) rfl))), (fun h => absurd h (by decide)), by decide +kernel⟩
set_option maxRecDepth 10000 in
theorem abok_111 : abOk abm_111 := ⟨ab_t5 (List.mem_of_getElem? (i := 8) rfl), (ab_t1 (List.mem_of_getElem? (i := 1) rfl)), rfl, by decide +kernel, by decide +kernel, by decide +kernel, (fun h => absurd h (by decide)), (fun _ => (ab_t5 (List.mem_of_getElem? (i := 6) rfl))), (fun _ => (ab_t5 (List.mem_of_getElem? (i := 7) rfl))), (fun h => absurd h (by decide)), by decide +kernel⟩
set_option maxRecDepth 10000 in
theorem abok_112 : abOk abm_112 := ⟨ab_t5 (List.mem_of_getElem? (i := 12) rfl), (ab_t1 (List.mem_of_getElem? (i := 1) rfl)), rfl, by decide +kernel, by decide +kernel, by decide +kernel, (fun h => absurd h (by decide)), (fun _ => (ab_t5 (List.mem_of_getElem? (i := 10) rfl))), (fun _ => (ab_t5 (List.mem_of_getElem? (i := 11) rfl))), (fun h => absurd h (by decide)), by decide +kernel⟩
set_option maxRecDepth 10000 in
theorem abok_113 : abOk abm_113 := ⟨ab_t5 (List.mem_of_getElem? (i := 16) rfl), (ab_t1 (List.mem_of_getElem? (i := 1) rfl)), rfl, by decide +kernel, by decide +kernel, by decide +kernel, (fun h => absurd h (by decide)), (fun _ => (ab_t5 (List.mem_of_getElem? (i := 14) rfl))), (fun _ => (ab_t5 (List.mem_of_getElem? (i := 15) rfl))), (fun h => absurd h (by decide)), by decide +kernel⟩
set_option maxRecDepth 10000 in
theorem abok_114 : abOk abm_114 := ⟨ab_t5 (List.mem_of_getElem? (i := 20) rfl), (ab_t1 (List.mem_of_getElem? (i := 1) rfl)), rfl, by decide +kernel, by decide +kernel, by decide +kernel, (fun h => absurd h (by decide)), (fun _ => (ab_t5 (List.mem_of_getElem? (i := 18) rfl))), (fun _ => (ab_t5 (List.mem_of_getElem? (i := 19) rfl))), (fun h => absurd h (by decide)), by decide +kernel⟩
set_option maxRecDepth 10000 in
theorem abok_115 : abOk abm_115 := ⟨ab_t5 (List.mem_of_getElem? (i := 36) rfl), (ab_t1 (List.mem_of_getElem? (i := 1) rfl)), rfl, by decide +kernel, by decide +kernel, by decide +kernel, (fun h => absurd h (by decide)), (fun _ => (ab_t5 (List.mem_of_getElem? (i := 34) rfl))), (fun _ => (ab_t5 (List.mem_of_getElem? (i := 35) rfl))), (fun h => absurd h (by decide)), by decide +kernel⟩
set_option maxRecDepth 10000 in
theorem abok_116 : abOk abm_116 := ⟨ab_t5 (List.mem_of_getElem? (i := 53) rfl), (ab_t1 (List.mem_of_getElem? (i := 1) rfl)), rfl, by decide +kernel, by decide +kernel, by decide +kernel, (fun h => absurd h (by decide)), (fun _ => (ab_t5 (List.mem_of_getElem? (i := 51) rfl))), (fun _ => (ab_t5 (List.mem_of_getElem? (i := 52) rfl))), (fun h => absurd h (by decide)), by decide +kernel⟩
set_option maxRecDepth 10000 in
theorem abok_117 : abOk abm_117 := ⟨ab_t5 (List.mem_of_getElem? (i := 58) rfl), (ab_t1 (List.mem_of_getElem? (i := 1) rfl)), rfl, by decide +kernel, by decide +kernel, by decide +kernel, (fun h => absurd h (by decide)), (fun _ => (ab_t5 (List.mem_of_getElem? (i := 56) rfl))), (fun _ => (ab_t5 (List.mem_of_getElem? (i := 57) rfl))), (fun h => absurd h (by decide)), by decide +kernel⟩
set_option maxRecDepth 10000 in
theorem abok_118 : abOk abm_118 := ⟨ab_t5 (List.mem_of_getElem? (i := 62) rfl), (ab_t1 (List.mem_of_getElem? (i := 1) rfl)), rfl, by decide +kernel, by decide +kernel, by decide +kernel, (fun h => absurd h (by decide)), (fun _ => (ab_t5 (List.mem_of_getElem? (i := 60) rfl))), (fun _ => (ab_t5 (List.mem_of_getElem? (i := 61) rfl))), (fun h => absurd h (by decide)), by decide +kernel⟩
set_option maxRecDepth 10000 in
theorem abok_119 : abOk abm_119 := ⟨ab_t5 (List.mem_of_getElem? (i := 66) rfl), (ab_t1 (List.mem_of_getElem? (i := 1) rfl)), rfl, by decide +kernel, by decide +kernel, by decide +kernel, (fun h => absurd h (by decide)), (fun _ => (ab_t5 (List.mem_of_getElem? (i := 64) rfl))), (fun _ => (ab_t5 (List.mem_of_getElem? (i := 65) rfl))), (fun h => absurd h (by decide)), by decide +kernel⟩
set_option maxRecDepth 10000 in
theorem abok_120 : abOk abm_120 := ⟨ab_t5 (List.mem_of_getElem? (i := 70) rfl), (ab_t1 (List.mem_of_getElem? (i := 1) rfl)), rfl, by decide +kernel, by decide +kernel, by decide +kernel, (fun h => absurd h (by decide)), (fun _ => (ab_t5 (List.mem_of_getElem? (i := 68) rfl))), (fun _ => (ab_t5 (List.mem_of_getElem? (i := 69) rfl))), (fun h => absurd h (by decide)), by decide +kernel⟩
set_option maxRecDepth 10000 in
theorem abok_121 : abOk abm_121 := ⟨ab_t5 (List.mem_of_getElem? (i := 74) rfl), (ab_t1 (List.mem_of_getElem? (i := 1) rfl)), rfl, by decide +kernel, by decide +kernel, by decide +kernel, (fun h => absurd h (by decide)), (fun _ => (ab_t5 (List.mem_of_getElem? (i := 72) rfl))), (fun _ => (ab_t5 (List.mem_of_getElem? (i := 73) rfl))), (fun h => absurd h (by decide)), by decide +kernel⟩
set_option maxRecDepth 10000 in
theorem abok_122 : abOk abm_122 := ⟨ab_t5 (List.mem_of_getElem? (i := 82) rfl), (ab_t1 (List.mem_of_getElem? (i := 1) rfl)), rfl, by decide +kernel, by decide +kernel, by decide +kernel, (fun h => absurd h (by decide)), (fun _ => (ab_t5 (List.mem_of_getElem? (i := 80) rfl))), (fun _ => (ab_t5 (List.mem_of_getElem? (i := 81) rfl))), (fun h => absurd h (by decide)), by decide +kernel⟩
set_option maxRecDepth 10000 in
theorem abok_123 : abOk abm_123 := ⟨ab_t5 (List.mem_of_getElem? (i := 87) rfl), (ab_t1 (List.mem_of_getElem? (i := 1) rfl)), rfl, by decide +kernel, by decide +kernel, by decide +kernel, (fun h => absurd h (by decide)), (fun _ => (ab_t5 (List.mem_of_getElem? (i := 85) rfl))), (fun _ => (ab_t5 (List.mem_of_getElem? (i := 86) rfl))), (fun h => absurd h (by decide)), by decide +kernel⟩
set_option maxRecDepth 10000 in
theorem abok_124 : abOk abm_124 := ⟨ab_t5 (List.mem_of_getElem? (i := 91) rfl), (ab_t1 (List.mem_of_getElem? (i := 1) rfl)), rfl, by decide +kernel, by decide +kernel, by decide +kernel, (fun h => absurd h (by decide)), (fun _ => (ab_t5 (List.mem_of_getElem? (i := 89) rfl))), (fun _ => (ab_t5 (List.mem_of_getElem? (i := 90) rfl))), (fun h => absurd h (by decide)), by decide +kernel⟩
set_option maxRecDepth 10000 in
theorem abok_125 : abOk abm_125 := ⟨ab_t4 (List.mem_of_getElem? (i := 33) rfl), (ab_t1 (List.mem_of_getElem? (i := 1) rfl)), rfl, by decide +kernel, by decide +kernel, by decide +kernel, (fun h => absurd h (by decide)), (fun _ => (ab_t4 (List.mem_of_getElem? (i := 32) rfl))), (fun _ => ab_t0 (List.mem_of_getElem? (i := 51) rfl)), (fun h => absurd h (by decide)), by decide +kernel⟩
set_option maxRecDepth 10000 in
theorem abok_126 : abOk abm_126 := ⟨ab_t4 (List.mem_of_getElem? (i := 127) rfl), (ab_t1 (List.mem_of_getElem? (i := 1) rfl)), rfl, by decide +kernel, by decide +kernel, by decide +kernel, (fun _ => (ab_t4 (List.mem_of_getElem? (i := 126) rfl))), (fun h => absurd rfl h), (fun h => absurd h (by decide)), (fun h => absurd h (by decide)), by decide +kernel⟩
set_option maxRecDepth 10000 in
theorem abok_127 : abOk abm_127 := ⟨ab_t4 (List.mem_of_getElem? (i := 58) rfl), (ab_t1 (List.mem_of_getElem? (i := 1) rfl)), rfl, by decide +kernel, by decide +kernel, by decide +kernel, (fun _ => (ab_t4 (List.mem_of_getElem? (i := 57) rfl))), (fun h => absurd rfl h), (fun h => absurd h (by decide)), (fun h => absurd h (by decide)), by decide +kernel⟩
set_option maxRecDepth 10000 in
theorem abok_128 : abOk abm_128 := ⟨ab_t5 (List.mem_of_getElem? (i := 28) rfl), (ab_t1 (List.mem_of_getElem? (i := 1) rfl)), rfl, by decide +kernel, by decide +kernel, by decide +kernel, (fun h => absurd h (by decide)), (fun _ => (ab_t5 (List.mem_of_getElem? (i := 27) rfl))), (fun _ => ab_t0 (List.mem_of_getElem? (i := 77) rfl)), (fun h => absurd h (by decide)), by decide +kernel⟩
set_option maxRecDepth 10000 in
theorem abok_129 : abOk abm_129 := ⟨ab_t5 (List.mem_of_getElem? (i := 24) rfl), (ab_t1 (List.mem_of_getElem? (i := 1) rfl)), rfl, by decide +kernel, by decide +kernel, by decide +kernel, (fun h => absurd h (by decide)), (fun _ => (ab_t5 (List.mem_of_getElem? (i := 23) rfl))), (fun _ => ab_t0 (List.mem_of_getElem? (i := 76) rfl)), (fun h => absurd h (by decide)), by decide +kernel⟩
set_option maxRecDepth 10000 in
theorem abok_130 : abOk abm_130 := ⟨ab_t5 (List.mem_of_getElem? (i := 40) rfl), (ab_t1 (List.mem_of_getElem? (i := 1) rfl)), rfl, by decide +kernel, by decide +kernel, by decide +kernel, (fun h => absurd h (by decide)), (fun _ => (ab_t5 (List.mem_of_getElem? (i := 39) rfl))), (fun _ => ab_t0 (List.mem_of_getElem? (i := 78) rfl)), (fun h => absurd h (by decide)), by decide +kernel⟩
set_option maxRecDepth 10000 in
theorem abok_131 : abOk abm_131 := ⟨ab_t3 (List.mem_of_getElem? (i := 206) rfl), (ab_t1 (List.mem_of_getElem? (i := 1) rfl)), rfl, by decide +kernel, by decide +kernel, by decide +kernel, (fun h => absurd h (by decide)), (fun _ => (ab_t3 (List.mem_of_getElem? (i := 205) rfl))), (fun _ => ab_t0 (List.mem_of_getElem? (i := 48) rfl)), (fun h => absurd h (by decide)), by decide +kernel⟩
set_option maxRecDepth 10000 in
theorem abok_132 : abOk abm_132 := ⟨ab_t4 (List.mem_of_getElem? (i := 186) rfl), (ab_t1 (List.mem_of_getElem? (i := 1) rfl)), rfl, by decide +kernel, by decide +kernel, by decide +kernel, (fun h => absurd h (by decide)), (fun _ => (ab_t4 (List.mem_of_getElem? (i := 185) rfl))), (fun _ => ab_t0 (List.mem_of_getElem? (i := 68) rfl)), (fun h => absurd h (by decide)), by decide +kernel⟩
set_option maxRecDepth 10000 in
theorem abok_133 : abOk abm_133 := ⟨ab_t4 (List.mem_of_getElem? (i := 216) rfl), (ab_t1 (List.mem_of_getElem? (i := 1) rfl)), rfl, by decide +kernel, by decide +kernel, by decide +kernel, (fun h => absurd h (by decide)), (fun _ => (ab_t4 (List.mem_of_getElem? (i := 215) rfl))), (fun _ => ab_t0 (List.mem_of_getElem? (i := 73) rfl)), (fun h => absurd h (by decide)), by decide +kernel⟩
set_option maxRecDepth 10000 in
theorem abok_134 : abOk abm_134 := ⟨ab_t4 (List.mem_of_getElem? (i := 220) rfl), (ab_t1 (List.mem_of_getElem? (i := 1) rfl)), rfl, by decide +kernel, by decide +kernel, by decide +kernel, (fun h => absurd h (by decide)), (fun _ => (ab_t4 (List.mem_of_getElem? (i := 219) rfl))), (fun _ => ab_t0 (List.mem_of_getElem? (i := 74) rfl)), (fun h => absurd h (by decide)), by decide +kernel⟩
set_option maxRecDepth 10000 in
theorem abok_135 : abOk abm_135 := ⟨ab_t5 (List.mem_of_getElem? (i := 0) rfl), (ab_t1 (List.mem_of_getElem? (i := 1) rfl)), rfl, by decide +kernel, by decide +kernel, by decide +kernel, (fun h => absurd h (by decide)), (fun _ => (ab_t4 (List.mem_of_getElem? (i := 239) rfl))), (fun _ => ab_t0 (List.mem_of_getElem? (i := 75) rfl)), (fun h => absurd h (by decide)), by decide +kernel⟩
set_option maxRecDepth 10000 in
theorem abok_136 : abOk abm_136 := ⟨ab_t6 (List.mem_of_getElem? (i := 36) rfl), (ab_t1 (List.mem_of_getElem? (i := 11) rfl)), rfl, by decide +kernel, by decide +kernel, by decide +kernel, (fun _ => (ab_t6 (List.mem_of_getElem? (i := 35) rfl))), (fun h => absurd rfl h), (fun h => absurd h (by decide)), (fun h => absurd h (by decide)), by decide +kernel⟩
set_option maxRecDepth 10000 in
theorem abok_137 : abOk abm_137 := ⟨ab_t7 (List.mem_of_getElem? (i := 49) rfl), (ab_t1 (List.mem_of_getElem? (i := 11) rfl)), rfl, by decide +kernel, by decide +kernel, by decide +kernel, (fun _ => (ab_t7 (List.mem_of_getElem? (i := 48) rfl))), (fun h => absurd rfl h), (fun h => absurd h (by decide)), (fun h => absurd h (by decide)), by decide +kernel⟩
set_option maxRecDepth 10000 in
theorem abok_138 : abOk abm_138 := ⟨ab_t6 (List.mem_of_getElem? (i := 131) rfl), (ab_t1 (List.mem_of_getElem? (i := 11) rfl)), rfl, by decide +kernel, by decide +kernel, by decide +kernel, (fun _ => (ab_t6 (List.mem_of_getElem? (i := 130) rfl))), (fun h => absurd rfl h), (fun h => absurd h (by decide)), (fun h => absurd h (by decide)), by decide +kernel⟩
set_option maxRecDepth 10000 in
theorem abok_139 : abOk abm_139 := ⟨ab_t6 (List.mem_of_getElem? (i := 210) rfl), (ab_t1 (List.mem_of_getElem? (i := 11) rfl)), rfl, by decide +kernel, by decide +kernel, by decide +kernel, (fun _ => (ab_t6 (List.mem_of_getElem? (i := 209) rfl))), (fun h => absurd rfl h), (fun h => absurd h (by decide)), (fun h => absurd h (by decide)), by decide +kernel⟩
set_option maxRecDepth 10000 in
theorem abok_140 : abOk abm_140 := ⟨ab_t5 (List.mem_of_getElem? (i := 96) rfl), (ab_t1 (List.mem_of_getElem? (i := 11) rfl)), rfl, by decide +kernel, by decide +kernel, by decide +kernel, (fun h => absurd h (by decide)), (fun _ => (ab_t5 (List.mem_of_getElem? (i := 95) rfl))), (fun h => absurd h (by decide)), (fun _ => rfl), by decide +kernel⟩
set_option maxRecDepth 10000 in
theorem abok_141 : abOk abm_141 := ⟨ab_t7 (List.mem_of_getElem? (i := 173) rfl), (ab_t1 (List.mem_of_getElem? (i := 11) rfl)), rfl, by decide +kernel, by decide +kernel, by decide +kernel, (fun h => absurd h (by decide)), (fun _ => (ab_t7 (List.mem_of_getElem? (i := 172) rfl))), (fun _ => ab_t0 (List.mem_of_getElem? (i := 163) rfl)), (fun h => absurd h (by decide)), by decide +kernel⟩
set_option maxRecDepth 10000 in
theorem abok_142 : abOk abm_142 := ⟨ab_t5 (List.mem_of_getElem? (i := 205) rfl), (ab_t1 (List.mem_of_getElem? (i := 11) rfl)), rfl, by decide +kernel, by decide +kernel, by decide +kernel, (fun h => absurd h (by decide)), (fun _ => (ab_t5 (List.mem_of_getElem? (i := 204) rfl))), (fun _ => ab_t0 (List.mem_of_getElem? (i := 82) rfl)), (fun h => absurd h (by decide)), by decide +kernel⟩
set_option maxRecDepth 10000 in
theorem abok_143 : abOk abm_143 := ⟨ab_t5 (List.mem_of_getElem? (i := 201) rfl), (ab_t1 (List.mem_of_getElem? (i := 11) rfl)), rfl, by decide +kernel, by decide +kernel, by decide +kernel, (fun h => absurd h (by decide)), (fun _ => (ab_t5 (List.mem_of_getElem? (i := 199) rfl))), (fun _ => (ab_t5 (List.mem_of_getElem? (i := 200) rfl))), (fun h => absurd h (by decide)), by decide +kernel⟩
set_option maxRecDepth 10000 in
theorem abok_144 : abOk abm_144 := ⟨ab_t5 (List.mem_of_getElem? (i := 209) rfl), (ab_t1 (List.mem_of_getElem? (i := 11) rfl)), rfl, by decide +kernel, by decide +kernel, by decide +kernel, (fun h => absurd h (by decide)), (fun _ => (ab_t5 (List.mem_of_getElem? (i := 207) rfl))), (fun _ => (ab_t5 (List.mem_of_getElem? (i := 208) rfl))), (fun h => absurd h (by decide)), by decide +kernel⟩
set_option maxRecDepth 10000 in
theorem abok_145 : abOk abm_145 := ⟨ab_t5 (List.mem_of_getElem? (i := 225) rfl), (ab_t1 (List.mem_of_getElem? (i := 11) rfl)), rfl, by decide +kernel, by decide +kernel, by decide +kernel, (fun h => absurd h (by decide)), (fun _ => (ab_t5 (List.mem_of_getElem? (i := 224) rfl))), (fun _ => ab_t0 (List.mem_of_getElem? (i := 85) rfl)), (fun h => absurd h (by decide)), by decide +kernel⟩
set_option maxRecDepth 10000 in
theorem abok_146 : abOk abm_146 := ⟨ab_t6 (List.mem_of_getElem? (i := 13) rfl), (ab_t1 (List.mem_of_getElem? (i := 11) rfl)), rfl, by decide +kernel, by decide +kernel, by decide +kernel, (fun h => absurd h (by decide)), (fun _ => (ab_t6 (List.mem_of_getElem? (i := 12) rfl))), (fun _ => ab_t0 (List.mem_of_getElem? (i := 92) rfl)), (fun h => absurd h (by decide)), by decide +kernel⟩
set_option maxRecDepth 10000 in
theorem abok_147 : abOk abm_147 := ⟨ab_t6 (List.mem_of_getElem? (i := 33) rfl), (ab_t1 (List.mem_of_getElem? (i := 11) rfl)), rfl, by decide +kernel, by decide +kernel, by decide +kernel, (fun h => absurd h (by decide)), (fun _ => (ab_t6 (List.mem_of_getElem? (i := 32) rfl))), (fun _ => ab_t0 (List.mem_of_getElem? (i := 97) rfl)), (fun h => absurd h (by decide)), by decide +kernel⟩
set_option maxRecDepth 10000 in
theorem abok_148 : abOk abm_148 := ⟨ab_t5 (List.mem_of_getElem? (i := 221) rfl), (ab_t1 (List.mem_of_getElem? (i := 11) rfl)), rfl, by decide +kernel, by decide +kernel, by decide +kernel, (fun h => absurd h (by decide)), (fun _ => (ab_t5 (List.mem_of_getElem? (i := 220) rfl))), (fun _ => ab_t0 (List.mem_of_getElem? (i := 84) rfl)), (fun h => absurd h (by decide)), by decide +kernel⟩
set_option maxRecDepth 10000 in
theorem abok_149 : abOk abm_149 := ⟨ab_t5 (List.mem_of_getElem? (i := 217) rfl), (ab_t1 (List.mem_of_getElem? (i := 11) rfl)), rfl, by decide +kernel, by decide +kernel, by decide +kernel, (fun h => absurd h (by decide)), (fun _ => (ab_t5 (List.mem_of_getElem? (i := 216) rfl))), (fun _ => ab_t0 (List.mem_of_getElem? (i := 83) rfl)), (fun h => absurd h (by decide)), by decide +kernel⟩
set_option maxRecDepth 10000 in
theorem abok_150 : abOk abm_150 := ⟨ab_t5 (List.mem_of_getElem? (i := 237) rfl), (ab_t1 (List.mem_of_getElem? (i := 11) rfl)), rfl, by decide +kernel, by decide +kernel, by decide +kernel, (fun h => absurd h (by decide)), (fun _ => (ab_t5 (List.mem_of_getElem? (i := 236) rfl))), (fun _ => ab_t0 (List.mem_of_getElem? (i := 88) rfl)), (fun h => absurd h (by decide)), by decide +kernel⟩
set_option maxRecDepth 10000 in
theorem abok_151 : abOk abm_151 := ⟨ab_t6 (List.mem_of_getElem? (i := 25) rfl), (ab_t1 (List.mem_of_getElem? (i := 11) rfl)), rfl, by decide +kernel, by decide +kernel, by decide +kernel, (fun h => absurd h (by decide)), (fun _ => (ab_t6 (List.mem_of_getElem? (i := 24) rfl))), (fun _ => ab_t0 (List.mem_of_getElem? (i := 95) rfl)), (fun h => absurd h (by decide)), by decide +kernel⟩
set_option maxRecDepth 10000 in
theorem abok_152 : abOk abm_152 := ⟨ab_t6 (List.mem_of_getElem? (i := 9) rfl), (ab_t1 (List.mem_of_getElem? (i := 11) rfl)), rfl, by decide +kernel, by decide +kernel, by decide +kernel, (fun h => absurd h (by decide)), (fun _ => (ab_t6 (List.mem_of_getElem? (i := 8) rfl))), (fun _ => ab_t0 (List.mem_of_getElem? (i := 91) rfl)), (fun h => absurd h (by decide)), by decide +kernel⟩
set_option maxRecDepth 10000 in
theorem abok_153 : abOk abm_153 := ⟨ab_t6 (List.mem_of_getElem? (i := 17) rfl), (ab_t1 (List.mem_of_getElem? (i := 11) rfl)), rfl, by decide +kernel, by decide +kernel, by decide +kernel, (fun h => absurd h (by decide)), (fun _ => (ab_t6 (List.mem_of_getElem? (i := 16) rfl))), (fun _ => ab_t0 (List.mem_of_getElem? (i := 93) rfl)), (fun h => absurd h (by decide)), by decide +kernel⟩
set_option maxRecDepth 10000 in
theorem abok_154 : abOk abm_154 := ⟨ab_t6 (List.mem_of_getElem? (i := 5) rfl), (ab_t1 (List.mem_of_getElem? (i := 11) rfl)), rfl, by decide +kernel, by decide +kernel, by decide +kernel, (fun h => absurd h (by decide)), (fun _ => (ab_t6 (List.mem_of_getElem? (i := 4) rfl))), (fun _ => ab_t0 (List.mem_of_getElem? (i := 90) rfl)), (fun h => absurd h (by decide)), by decide +kernel⟩
set_option maxRecDepth 10000 in
theorem abok_155 : abOk abm_155 := ⟨ab_t6 (List.mem_of_getElem? (i := 21) rfl), (ab_t1 (List.mem_of_getElem? (i := 11) rfl)), rfl, by decide +kernel, by decide +kernel, by decide +kernel, (fun h => absurd h (by decide)), (fun _ => (ab_t6 (List.mem_of_getElem? (i := 20) rfl))), (fun _ => ab_t0 (List.mem_of_getElem? (i := 94) rfl)), (fun h => absurd h (by decide)), by decide +kernel⟩
set_option maxRecDepth 10000 in
theorem abok_156 : abOk abm_156 := ⟨ab_t6 (List.mem_of_getElem? (i := 1) rfl), (ab_t1 (List.mem_of_getElem? (i := 11) rfl)), rfl, by decide +kernel, by decide +kernel, by decide +kernel, (fun h => absurd h (by decide)), (fun _ => (ab_t6 (List.mem_of_getElem? (i := 0) rfl))), (fun _ => ab_t0 (List.mem_of_getElem? (i := 89) rfl)), (fun h => absurd h (by decide)), by decide +kernel⟩
set_option maxRecDepth 10000 in
theorem abok_157 : abOk abm_157 := ⟨ab_t5 (List.mem_of_getElem? (i := 233) rfl), (ab_t1 (List.mem_of_getElem? (i := 11) rfl)), rfl, by decide +kernel, by decide +kernel, by decide +kernel, (fun h => absurd h (by decide)), (fun _ => (ab_t5 (List.mem_of_getElem? (i := 232) rfl))), (fun _ => ab_t0 (List.mem_of_getElem? (i := 87) rfl)), (fun h => absurd h (by decide)), by decide +kernel⟩
set_option maxRecDepth 10000 in
theorem abok_158 : abOk abm_158 := ⟨ab_t6 (List.mem_of_getElem? (i := 44) rfl), (ab_t1 (List.mem_of_getElem? (i := 11) rfl)), rfl, by decide +kernel, by decide +kernel, by decide +kernel, (fun h => absurd h (by decide)), (fun _ => (ab_t6 (List.mem_of_getElem? (i := 43) rfl))), (fun _ => ab_t0 (List.mem_of_getElem? (i := 99) rfl)), (fun h => absurd h (by decide)), by decide +kernel⟩
set_option maxRecDepth 10000 in
theorem abok_159 : abOk abm_159 := ⟨ab_t6 (List.mem_of_getElem? (i := 29) rfl), (ab_t1 (List.mem_of_getElem? (i := 11) rfl)), rfl, by decide +kernel, by decide +kernel, by decide +kernel, (fun h => absurd h (by decide)), (fun _ => (ab_t6 (List.mem_of_getElem? (i := 28) rfl))), (fun _ => ab_t0 (List.mem_of_getElem? (i := 96) rfl)), (fun h => absurd h (by decide)), by decide +kernel⟩
set_option maxRecDepth 10000 in
theorem abok_160 : abOk abm_160 := ⟨ab_t6 (List.mem_of_getElem? (i := 64) rfl), (ab_t1 (List.mem_of_getElem? (i := 11) rfl)), rfl, by decide +kernel, by decide +kernel, by decide +kernel, (fun h => absurd h (by decide)), (fun _ => (ab_t6 (List.mem_of_getElem? (i := 63) rfl))), (fun _ => ab_t0 (List.mem_of_getElem? (i := 104) rfl)), (fun h => absurd h (by decide)), by decide +kernel⟩
set_option maxRecDepth 10000 in
theorem abok_161 : abOk abm_161 := ⟨ab_t6 (List.mem_of_getElem? (i := 68) rfl), (ab_t1 (List.mem_of_getElem? (i := 11) rfl)), rfl, by decide +kernel, by decide +kernel, by decide +kernel, (fun h => absurd h (by decide)), (fun _ => (ab_t6 (List.mem_of_getElem? (i := 67) rfl))), (fun _ => ab_t0 (List.mem_of_getElem? (i := 105) rfl)), (fun h => absurd h (by decide)), by decide +kernel⟩
set_option maxRecDepth 10000 in
theorem abok_162 : abOk abm_162 := ⟨ab_t6 (List.mem_of_getElem? (i := 72) rfl), (ab_t1 (List.mem_of_getElem? (i := 11) rfl)), rfl, by decide +kernel, by decide +kernel, by decide +kernel, (fun h => absurd h (by decide)), (fun _ => (ab_t6 (List.mem_of_getElem? (i := 71) rfl))), (fun _ => ab_t0 (List.mem_of_getElem? (i := 106) rfl)), (fun h => absurd h (by decide)), by decide +kernel⟩
set_option maxRecDepth 10000 in
theorem abok_163 : abOk abm_163 := ⟨ab_t6 (List.mem_of_getElem? (i := 128) rfl), (ab_t1 (List.mem_of_getElem? (i := 11) rfl)), rfl, by decide +kernel, by decide +kernel, by decide +kernel, (fun h => absurd h (by decide)), (fun _ => (ab_t6 (List.mem_of_getElem? (i := 127) rfl))), (fun _ => ab_t0 (List.mem_of_getElem? (i := 120) rfl)), (fun h => absurd h (by decide)), by decide +kernel⟩
set_option maxRecDepth 10000 in
theorem abok_164 : abOk abm_164 := ⟨ab_t6 (List.mem_of_getElem? (i := 100) rfl), (ab_t1 (List.mem_of_getElem? (i := 11) rfl)), rfl, by decide +kernel, by decide +kernel, by decide +kernel, (fun h => absurd h (by decide)), (fun _ => (ab_t6 (List.mem_of_getElem? (i := 99) rfl))), (fun _ => ab_t0 (List.mem_of_getElem? (i := 113) rfl)), (fun h => absurd h (by decide)), by decide +kernel⟩
set_option maxRecDepth 10000 in
theorem abok_165 : abOk abm_165 := ⟨ab_t6 (List.mem_of_getElem? (i := 116) rfl), (ab_t1 (List.mem_of_getElem? (i := 11) rfl)), rfl, by decide +kernel, by decide +kernel, by decide +kernel, (fun h => absurd h (by decide)), (fun _ => (ab_t6 (List.mem_of_getElem? (i := 115) rfl))), (fun _ => ab_t0 (List.mem_of_getElem? (i := 117) rfl)), (fun h => absurd h (by decide)), by decide +kernel⟩
set_option maxRecDepth 10000 in
theorem abok_166 : abOk abm_166 := ⟨ab_t6 (List.mem_of_getElem? (i := 112) rfl), (ab_t1 (List.mem_of_getElem? (i := 11) rfl)), rfl, by decide +kernel, by decide +kernel, by decide +kernel, (fun h => absurd h (by decide)), (fun _ => (ab_t6 (List.mem_of_getElem? (i := 111) rfl))), (fun _ => ab_t0 (List.mem_of_getElem? (i := 116) rfl)), (fun h => absurd h (by decide)), by decide +kernel⟩
set_option maxRecDepth 10000 in
theorem abok_167 : abOk abm_167 := ⟨ab_t6 (List.mem_of_getElem? (i := 96) rfl), (ab_t1 (List.mem_of_getElem? (i := 11) rfl)), rfl, by decide +kernel, by decide +kernel, by decide +kernel, (fun h => absurd h (by decide)), (fun _ => (ab_t6 (List.mem_of_getElem? (i := 95) rfl))), (fun _ => ab_t0 (List.mem_of_getElem? (i := 112) rfl)), (fun h => absurd h (by decide)), by decide +kernel⟩
set_option maxRecDepth 10000 in
theorem abok_168 : abOk abm_168 := ⟨ab_t6 (List.mem_of_getElem? (i := 104) rfl), (ab_t1 (List.mem_of_getElem? (i := 11) rfl)), rfl, by decide +kernel, by decide +kernel, by decide +kernel, (fun h => absurd h (by decide)), (fun _ => (ab_t6 (List.mem_of_getElem? (i := 103) rfl))), (fun _ => ab_t0 (List.mem_of_getElem? (i := 114) rfl)), (fun h => absurd h (by decide)), by decide +kernel⟩
set_option maxRecDepth 10000 in
theorem abok_169 : abOk abm_169 := ⟨ab_t6 (List.mem_of_getElem? (i := 92) rfl), (ab_t1 (List.mem_of_getElem? (i := 11) rfl)), rfl, by decide +kernel, by decide +kernel, by decide +kernel, (fun h => absurd h (by decide)), (fun _ => (ab_t6 (List.mem_of_getElem? (i := 91) rfl))), (fun _ => ab_t0 (List.mem_of_getElem? (i := 111) rfl)), (fun h => absurd h (by decide)), by decide +kernel⟩
set_option maxRecDepth 10000 in
theorem abok_170 : abOk abm_170 := ⟨ab_t6 (List.mem_of_getElem? (i := 84) rfl), (ab_t1 (List.mem_of_getElem? (i := 11) rfl)), rfl, by decide +kernel, by decide +kernel, by decide +kernel, (fun h => absurd h (by decide)), (fun _ => (ab_t6 (List.mem_of_getElem? (i := 83) rfl))), (fun _ => ab_t0 (List.mem_of_getElem? (i := 109) rfl)), (fun h => absurd h (by decide)), by decide +kernel⟩
set_option maxRecDepth 10000 in
theorem abok_171 : abOk abm_171 := ⟨ab_t6 (List.mem_of_getElem? (i := 108) rfl), (ab_t1 (List.mem_of_getElem? (i := 11) rfl)), rfl, by decide +kernel, by decide +kernel, by decide +kernel, (fun h => absurd h (by decide)), (fun _ => (ab_t6 (List.mem_of_getElem? (i := 107) rfl))), (fun _ => ab_t0 (List.mem_of_getElem? (i := 115) rfl)), (fun h => absurd h (by decide)), by decide +kernel⟩
set_option maxRecDepth 10000 in
theorem abok_172 : abOk abm_172 := ⟨ab_t6 (List.mem_of_getElem? (i := 88) rfl), (ab_t1 (List.mem_of_getElem? (i := 11) rfl)), rfl, by decide +kernel, by decide +kernel, by decide +kernel, (fun h => absurd h (by decide)), (fun _ => (ab_t6 (List.mem_of_getElem? (i := 87) rfl))), (fun _ => ab_t0 (List.mem_of_getElem? (i := 110) rfl)), (fun h => absurd h (by decide)), by decide +kernel⟩
set_option maxRecDepth 10000 in
theorem abok_173 : abOk abm_173 := ⟨ab_t6 (List.mem_of_getElem? (i := 80) rfl), (ab_t1 (List.mem_of_getElem? (i := 11) rfl)), rfl, by decide +kernel, by decide +kernel, by decide +kernel, (fun h => absurd h (by decide)), (fun _ => (ab_t6 (List.mem_of_getElem? (i := 79) rfl))), (fun _ => ab_t0 (List.mem_of_getElem? (i := 108) rfl)), (fun h => absurd h (by decide)), by decide +kernel⟩
set_option maxRecDepth 10000 in
theorem abok_174 : abOk abm_174 := ⟨ab_t6 (List.mem_of_getElem? (i := 76) rfl), (ab_t1 (List.mem_of_getElem? (i := 11) rfl)), rfl, by decide +kernel, by decide +kernel, by decide +kernel, (fun h => absurd h (by decide)), (fun _ => (ab_t6 (List.mem_of_getElem? (i := 75) rfl))), (fun _ => ab_t0 (List.mem_of_getElem? (i := 107) rfl)), (fun h => absurd h (by decide)), by decide +kernel⟩
set_option maxRecDepth 10000 in
theorem abok_175 : abOk abm_175 := ⟨ab_t6 (List.mem_of_getElem? (i := 120) rfl), (ab_t1 (List.mem_of_getElem? (i := 11) rfl)), rfl, by decide +kernel, by decide +kernel, by decide +kernel, (fun h => absurd h (by decide)), (fun _ => (ab_t6 (List.mem_of_getElem? (i := 119) rfl))), (fun _ => ab_t0 (List.mem_of_getElem? (i := 118) rfl)), (fun h => absurd h (by decide)), by decide +kernel⟩
set_option maxRecDepth 10000 in
theorem abok_176 : abOk abm_176 := ⟨ab_t6 (List.mem_of_getElem? (i := 52) rfl), (ab_t1 (List.mem_of_getElem? (i := 11) rfl)), rfl, by decide +kernel, by decide +kernel, by decide +kernel, (fun h => absurd h (by decide)), (fun _ => (ab_t6 (List.mem_of_getElem? (i := 51) rfl))), (fun _ => ab_t0 (List.mem_of_getElem? (i := 101) rfl)), (fun h => absurd h (by decide)), by decide +kernel⟩
set_option maxRecDepth 10000 in
theorem abok_177 : abOk abm_177 := ⟨ab_t5 (List.mem_of_getElem? (i := 229) rfl), (ab_t1 (List.mem_of_getElem? (i := 11) rfl)), rfl, by decide +kernel, by decide +kernel, by decide +kernel, (fun h => absurd h (by decide)), (fun _ => (ab_t5 (List.mem_of_getElem? (i := 228) rfl))), (fun _ => ab_t0 (List.mem_of_getElem? (i := 86) rfl)), (fun h => absurd h (by decide)), by decide +kernel⟩
set_option maxRecDepth 10000 in
theorem abok_178 : abOk abm_178 := ⟨ab_t6 (List.mem_of_getElem? (i := 60) rfl), (ab_t1 (List.mem_of_getElem? (i := 11) rfl)), rfl, by decide +kernel, by decide +kernel, by decide +kernel, (fun h => absurd h (by decide)), (fun _ => (ab_t6 (List.mem_of_getElem? (i := 59) rfl))), (fun _ => ab_t0 (List.mem_of_getElem? (i := 103) rfl)), (fun h => absurd h (by decide)), by decide +kernel⟩
set_option maxRecDepth 10000 in
theorem abok_179 : abOk abm_179 := ⟨ab_t6 (List.mem_of_getElem? (i := 124) rfl), (ab_t1 (List.mem_of_getElem? (i := 11) rfl)), rfl, by decide +kernel, by decide +kernel, by decide +kernel, (fun h => absurd h (by decide)), (fun _ => (ab_t6 (List.mem_of_getElem? (i := 123) rfl))), (fun _ => ab_t0 (List.mem_of_getElem? (i := 119) rfl)), (fun h => absurd h (by decide)), by decide +kernel⟩
set_option maxRecDepth 10000 in
theorem abok_180 : abOk abm_180 := ⟨ab_t6 (List.mem_of_getElem? (i := 139) rfl), (ab_t1 (List.mem_of_getElem? (i := 11) rfl)), rfl, by decide +kernel, by decide +kernel, by decide +kernel, (fun h => absurd h (by decide)), (fun _ => (ab_t6 (List.mem_of_getElem? (i := 138) rfl))), (fun _ => ab_t0 (List.mem_of_getElem? (i := 122) rfl)), (fun h => absurd h (by decide)), by decide +kernel⟩
set_option maxRecDepth 10000 in
theorem abok_181 : abOk abm_181 := ⟨ab_t6 (List.mem_of_getElem? (i := 143) rfl), (ab_t1 (List.mem_of_getElem? (i := 11) rfl)), rfl, by decide +kernel, by decide +kernel, by decide +kernel, (fun h => absurd h (by decide)), (fun _ => (ab_t6 (List.mem_of_getElem? (i := 142) rfl))), (fun _ => ab_t0 (List.mem_of_getElem? (i := 123) rfl)), (fun h => absurd h (by decide)), by decide +kernel⟩
set_option maxRecDepth 10000 in
theorem abok_182 : abOk abm_182 := ⟨ab_t6 (List.mem_of_getElem? (i := 135) rfl), (ab_t1 (List.mem_of_getElem? (i := 11) rfl)), rfl, by decide +kernel, by decide +kernel, by decide +kernel, (fun h => absurd h (by decide)), (fun _ => (ab_t6 (List.mem_of_getElem? (i := 134) rfl))), (fun _ => ab_t0 (List.mem_of_getElem? (i := 121) rfl)), (fun h => absurd h (by decide)), by decide +kernel⟩
set_option maxRecDepth 10000 in
theorem abok_183 : abOk abm_183 := ⟨ab_t6 (List.mem_of_getElem? (i := 147) rfl), (ab_t1 (List.mem_of_getElem? (i := 11) rfl)), rfl, by decide +kernel, by decide +kernel, by decide +kernel, (fun h => absurd h (by decide)), (fun _ => (ab_t6 (List.mem_of_getElem? (i := 146) rfl))), (fun _ => ab_t0 (List.mem_of_getElem? (i := 124) rfl)), (fun h => absurd h (by decide)), by decide +kernel⟩
set_option maxRecDepth 10000 in
theorem abok_184 : abOk abm_184 := ⟨ab_t6 (List.mem_of_getElem? (i := 56) rfl), (ab_t1 (List.mem_of_getElem? (i := 11) rfl)), rfl, by decide +kernel, by decide +kernel, by decide +kernel, (fun h => absurd h (by decide)), (fun _ => (ab_t6 (List.mem_of_getElem? (i := 55) rfl))), (fun _ => ab_t0 (List.mem_of_getElem? (i := 102) rfl)), (fun h => absurd h (by decide)), by decide +kernel⟩
set_option maxRecDepth 10000 in
theorem abok_185 : abOk abm_185 := ⟨ab_t6 (List.mem_of_getElem? (i := 48) rfl), (ab_t1 (List.mem_of_getElem? (i := 11) rfl)), rfl, by decide +kernel, by decide +kernel, by decide +kernel, (fun h => absurd h (by decide)), (fun _ => (ab_t6 (List.mem_of_getElem? (i := 47) rfl))), (fun _ => ab_t0 (List.mem_of_getElem? (i := 100) rfl)), (fun h => absurd h (by decide)), by decide +kernel⟩
set_option maxRecDepth 10000 in
theorem abok_186 : abOk abm_186 := ⟨ab_t6 (List.mem_of_getElem? (i := 40) rfl), (ab_t1 (List.mem_of_getElem? (i := 11) rfl)), rfl, by decide +kernel, by decide +kernel, by decide +kernel, (fun h => absurd h (by decide)), (fun _ => (ab_t6 (List.mem_of_getElem? (i := 39) rfl))), (fun _ => ab_t0 (List.mem_of_getElem? (i := 98) rfl)), (fun h => absurd h (by decide)), by decide +kernel⟩
set_option maxRecDepth 10000 in
theorem abok_187 : abOk abm_187 := ⟨ab_t5 (List.mem_of_getElem? (i := 213) rfl), (ab_t1 (List.mem_of_getElem? (i := 11) rfl)), rfl, by decide +kernel, by decide +kernel, by decide +kernel, (fun h => absurd h (by decide)), (fun _ => (ab_t5 (List.mem_of_getElem? (i := 211) rfl))), (fun _ => (ab_t5 (List.mem_of_getElem? (i := 212) rfl))), (fun h => absurd h (by decide)), by decide +kernel⟩
set_option maxRecDepth 10000 in
theorem abok_188 : abOk abm_188 := ⟨ab_t6 (List.mem_of_getElem? (i := 151) rfl), (ab_t1 (List.mem_of_getElem? (i := 11) rfl)), rfl, by decide +kernel, by decide +kernel, by decide +kernel, (fun h => absurd h (by decide)), (fun _ => (ab_t6 (List.mem_of_getElem? (i := 149) rfl))), (fun _ => (ab_t6 (List.mem_of_getElem? (i := 150) rfl))), (fun h => absurd h (by decide)), by decide +kernel⟩
set_option maxRecDepth 10000 in
theorem abok_189 : abOk abm_189 := ⟨ab_t6 (List.mem_of_getElem? (i := 155) rfl), (ab_t1 (List.mem_of_getElem? (i := 11) rfl)), rfl, by decide +kernel, by decide +kernel, by decide +kernel, (fun h => absurd h (by decide)), (fun _ => (ab_t6 (List.mem_of_getElem? (i := 153) rfl))), (fun _ => (ab_t6 (List.mem_of_getElem? (i := 154) rfl))), (fun h => absurd h (by decide)), by decide +kernel⟩
set_option maxRecDepth 10000 in
theorem abok_190 : abOk abm_190 := ⟨ab_t6 (List.mem_of_getElem? (i := 163) rfl), (ab_t1 (List.mem_of_getElem? (i := 11) rfl)), rfl, by decide +kernel, by decide +kernel, by decide +kernel, (fun h => absurd h (by decide)), (fun _ => (ab_t6 (List.mem_of_getElem? (i := 162) rfl))), (fun _ => ab_t0 (List.mem_of_getElem? (i := 125) rfl)), (fun h => absurd h (by decide)), by decide +kernel⟩
set_option maxRecDepth 10000 in
theorem abok_191 : abOk abm_191 := ⟨ab_t6 (List.mem_of_getElem? (i := 167) rfl), (ab_t1 (List.mem_of_getElem? (i := 11) rfl)), rfl, by decide +kernel, by decide +kernel, by decide +kernel, (fun h => absurd h (by decide)), (fun _ => (ab_t6 (List.mem_of_getElem? (i := 166) rfl))), (fun _ => ab_t0 (List.mem_of_getElem? (i := 126) rfl)), (fun h => absurd h (by decide)), by decide +kernel⟩
set_option maxRecDepth 10000 in
theorem abok_192 : abOk abm_192 := ⟨ab_t6 (List.mem_of_getElem? (i := 175) rfl), (ab_t1 (List.mem_of_getElem? (i := 11) rfl)), rfl, by decide +kernel, by decide +kernel, by decide +kernel, (fun h => absurd h (by decide)), (fun _ => (ab_t6 (List.mem_of_getElem? (i := 174) rfl))), (fun _ => ab_t0 (List.mem_of_getElem? (i := 127) rfl)), (fun h => absurd h (by decide)), by decide +kernel⟩
set_option maxRecDepth 10000 in
theorem abok_193 : abOk abm_193 := ⟨ab_t6 (List.mem_of_getElem? (i := 230) rfl), (ab_t1 (List.mem_of_getElem? (i := 11) rfl)), rfl, by decide +kernel, by decide +kernel, by decide +kernel, (fun h => absurd h (by decide)), (fun _ => (ab_t6 (List.mem_of_getElem? (i := 229) rfl))), (fun _ => ab_t0 (List.mem_of_getElem? (i := 137) rfl)), (fun h => absurd h (by decide)), by decide +kernel⟩
set_option maxRecDepth 10000 in
theorem abok_194 : abOk abm_194 := ⟨ab_t6 (List.mem_of_getElem? (i := 187) rfl), (ab_t1 (List.mem_of_getElem? (i := 11) rfl)), rfl, by decide +kernel, by decide +kernel, by decide +kernel, (fun h => absurd h (by decide)), (fun _ => (ab_t6 (List.mem_of_getElem? (i := 186) rfl))), (fun _ => ab_t0 (List.mem_of_getElem? (i := 130) rfl)), (fun h => absurd h (by decide)), by decide +kernel⟩
set_option maxRecDepth 10000 in
theorem abok_195 : abOk abm_195 := ⟨ab_t6 (List.mem_of_getElem? (i := 159) rfl), (ab_t1 (List.mem_of_getElem? (i := 11) rfl)), rfl, by decide +kernel, by decide +kernel, by decide +kernel, (fun h => absurd h (by decide)), (fun _ => (ab_t6 (List.mem_of_getElem? (i := 157) rfl))), (fun _ => (ab_t6 (List.mem_of_getElem? (i := 158) rfl))), (fun h => absurd h (by decide)), by decide +kernel⟩
set_option maxRecDepth 10000 in
theorem abok_196 : abOk abm_196 := ⟨ab_t6 (List.mem_of_getElem? (i := 179) rfl), (ab_t1 (List.mem_of_getElem? (i := 11) rfl)), rfl, by decide +kernel, by decide +kernel, by decide +kernel, (fun h => absurd h (by decide)), (fun _ => (ab_t6 (List.mem_of_getElem? (i := 178) rfl))), (fun _ => ab_t0 (List.mem_of_getElem? (i := 128) rfl)), (fun h => absurd h (by decide)), by decide +kernel⟩
set_option maxRecDepth 10000 in
theorem abok_197 : abOk abm_197 := ⟨ab_t6 (List.mem_of_getElem? (i := 191) rfl), (ab_t1 (List.mem_of_getElem? (i := 11) rfl)), rfl, by decide +kernel, by decide +kernel, by decide +kernel, (fun h => absurd h (by decide)), (fun _ => (ab_t6 (List.mem_of_getElem? (i := 190) rfl))), (fun _ => ab_t0 (List.mem_of_getElem? (i := 131) rfl)), (fun h => absurd h (by decide)), by decide +kernel⟩
set_option maxRecDepth 10000 in
theorem abok_198 : abOk abm_198 := ⟨ab_t6 (List.mem_of_getElem? (i := 183) rfl), (ab_t1 (List.mem_of_getElem? (i := 11) rfl)), rfl, by decide +kernel, by decide +kernel, by decide +kernel, (fun h => absurd h (by decide)), (fun _ => (ab_t6 (List.mem_of_getElem? (i := 182) rfl))), (fun _ => ab_t0 (List.mem_of_getElem? (i := 129) rfl)), (fun h => absurd h (by decide)), by decide +kernel⟩
set_option maxRecDepth 10000 in
theorem abok_199 : abOk abm_199 := ⟨ab_t6 (List.mem_of_getElem? (i := 195) rfl), (ab_t1 (List.mem_of_getElem? (i := 11) rfl)), rfl, by decide +kernel, by decide +kernel, by decide +kernel, (fun h => absurd h (by decide)), (fun _ => (ab_t6 (List.mem_of_getElem? (i := 194) rfl))), (fun _ => ab_t0 (List.mem_of_getElem? (i := 132) rfl)), (fun h => absurd h (by decide)), by decide +kernel⟩
set_option maxRecDepth 10000 in
theorem abok_200 : abOk abm_200 := ⟨ab_t6 (List.mem_of_getElem? (i := 199) rfl), (ab_t1 (List.mem_of_getElem? (i := 11) rfl)), rfl, by decide +kernel, by decide +kernel, by decide +kernel, (fun h => absurd h (by decide)), (fun _ => (ab_t6 (List.mem_of_getElem? (i := 198) rfl))), (fun _ => ab_t0 (List.mem_of_getElem? (i := 133) rfl)), (fun h => absurd h (by decide)), by decide +kernel⟩
set_option maxRecDepth 10000 in
theorem abok_201 : abOk abm_201 := ⟨ab_t6 (List.mem_of_getElem? (i := 203) rfl), (ab_t1 (List.mem_of_getElem? (i := 11) rfl)), rfl, by decide +kernel, by decide +kernel, by decide +kernel, (fun h => absurd h (by decide)), (fun _ => (ab_t6 (List.mem_of_getElem? (i := 202) rfl))), (fun _ => ab_t0 (List.mem_of_getElem? (i := 134) rfl)), (fun h => absurd h (by decide)), by decide +kernel⟩
set_option maxRecDepth 10000 in
theorem abok_202 : abOk abm_202 := ⟨ab_t6 (List.mem_of_getElem? (i := 207) rfl), (ab_t1 (List.mem_of_getElem? (i := 11) rfl)), rfl, by decide +kernel, by decide +kernel, by decide +kernel, (fun h => absurd h (by decide)), (fun _ => (ab_t6 (List.mem_of_getElem? (i := 206) rfl))), (fun _ => ab_t0 (List.mem_of_getElem? (i := 135) rfl)), (fun h => absurd h (by decide)), by decide +kernel⟩
set_option maxRecDepth 10000 in
theorem abok_203 : abOk abm_203 := ⟨ab_t6 (List.mem_of_getElem? (i := 214) rfl), (ab_t1 (List.mem_of_getElem? (i := 11) rfl)), rfl, by decide +kernel, by decide +kernel, by decide +kernel, (fun h => absurd h (by decide)), (fun _ => (ab_t6 (List.mem_of_getElem? (i := 213) rfl))), (fun _ => ab_t0 (List.mem_of_getElem? (i := 136) rfl)), (fun h => absurd h (by decide)), by decide +kernel⟩
set_option maxRecDepth 10000 in
theorem abok_204 : abOk abm_204 := ⟨ab_t6 (List.mem_of_getElem? (i := 171) rfl), (ab_t1 (List.mem_of_getElem? (i := 11) rfl)), rfl, by decide +kernel, by decide +kernel, by decide +kernel, (fun h => absurd h (by decide)), (fun _ => (ab_t6 (List.mem_of_getElem? (i := 169) rfl))), (fun _ => (ab_t6 (List.mem_of_getElem? (i := 170) rfl))), (fun h => absurd h (by decide)), by decide +kernel⟩
set_option maxRecDepth 10000 in
theorem abok_205 : abOk abm_205 := ⟨ab_t6 (List.mem_of_getElem? (i := 218) rfl), (ab_t1 (List.mem_of_getElem? (i := 11) rfl)), rfl, by decide +kernel, by decide +kernel, by decide +kernel, (fun h => absurd h (by decide)), (fun _ => (ab_t6 (List.mem_of_getElem? (i := 216) rfl))), (fun _ => (ab_t6 (List.mem_of_getElem? (i := 217) rfl))), (fun h => absurd h (by decide)), by decide +kernel⟩
set_option maxRecDepth 10000 in
theorem abok_206 : abOk abm_206 := ⟨ab_t6 (List.mem_of_getElem? (i := 222) rfl), (ab_t1 (List.mem_of_getElem? (i := 11) rfl)), rfl, by decide +kernel, by decide +kernel, by decide +kernel, (fun h => absurd h (by decide)), (fun _ => (ab_t6 (List.mem_of_getElem? (i := 220) rfl))), (fun _ => (ab_t6 (List.mem_of_getElem? (i := 221) rfl))), (fun h => absurd h (by decide)), by decide +kernel⟩
set_option maxRecDepth 10000 in
theorem abok_207 : abOk abm_207 := ⟨ab_t6 (List.mem_of_getElem? (i := 226) rfl), (ab_t1 (List.mem_of_getElem? (i := 11) rfl)), rfl, by decide +kernel, by decide +kernel, by decide +kernel, (fun h => absurd h (by decide)), (fun _ => (ab_t6 (List.mem_of_getElem? (i := 224) rfl))), (fun _ => (ab_t6 (List.mem_of_getElem? (i := 225) rfl))), (fun h => absurd h (by decide)), by decide +kernel⟩
set_option maxRecDepth 10000 in
theorem abok_208 : abOk abm_208 := ⟨ab_t6 (List.mem_of_getElem? (i := 234) rfl), (ab_t1 (List.mem_of_getElem? (i := 11) rfl)), rfl, by decide +kernel, by decide +kernel, by decide +kernel, (fun h => absurd h (by decide)), (fun _ => (ab_t6 (List.mem_of_getElem? (i := 232) rfl))), (fun _ => (ab_t6 (List.mem_of_getElem? (i := 233) rfl))), (fun h => absurd h (by decide)), by decide +kernel⟩
set_option maxRecDepth 10000 in
theorem abok_209 : abOk abm_209 := ⟨ab_t6 (List.mem_of_getElem? (i := 238) rfl), (ab_t1 (List.mem_of_getElem? (i := 11) rfl)), rfl, by decide +kernel, by decide +kernel, by decide +kernel, (fun h => absurd h (by decide)), (fun _ => (ab_t6 (List.mem_of_getElem? (i := 236) rfl))), (fun _ => (ab_t6 (List.mem_of_getElem? (i := 237) rfl))), (fun h => absurd h (by decide)), by decide +kernel⟩
set_option maxRecDepth 10000 in
theorem abok_210 : abOk abm_210 := ⟨ab_t7 (List.mem_of_getElem? (i := 2) rfl), (ab_t1 (List.mem_of_getElem? (i := 11) rfl)), rfl, by decide +kernel, by decide +kernel, by decide +kernel, (fun h => absurd h (by decide)), (fun _ => (ab_t7 (List.mem_of_getElem? (i := 1) rfl))), (fun _ => ab_t0 (List.mem_of_getElem? (i := 138) rfl)), (fun h => absurd h (by decide)), by decide +kernel⟩
set_option maxRecDepth 10000 in
theorem abok_211 : abOk abm_211 := ⟨ab_t7 (List.mem_of_getElem? (i := 6) rfl), (ab_t1 (List.mem_of_getElem? (i := 11) rfl)), rfl, by decide +kernel, by decide +kernel, by decide +kernel, (fun h => absurd h (by decide)), (fun _ => (ab_t7 (List.mem_of_getElem? (i := 4) rfl))), (fun _ => (ab_t7 (List.mem_of_getElem? (i := 5) rfl))), (fun h => absurd h (by decide)), by decide +kernel⟩
set_option maxRecDepth 10000 in
theorem abok_212 : abOk abm_212 := ⟨ab_t7 (List.mem_of_getElem? (i := 18) rfl), (ab_t1 (List.mem_of_getElem? (i := 11) rfl)), rfl, by decide +kernel, by decide +kernel, by decide +kernel, (fun h => absurd h (by decide)), (fun _ => (ab_t7 (List.mem_of_getElem? (i := 17) rfl))), (fun _ => ab_t0 (List.mem_of_getElem? (i := 140) rfl)), (fun h => absurd h (by decide)), by decide +kernel⟩
set_option maxRecDepth 10000 in
theorem abok_213 : abOk abm_213 := ⟨ab_t7 (List.mem_of_getElem? (i := 14) rfl), (ab_t1 (List.mem_of_getElem? (i := 11) rfl)), rfl, by decide +kernel, by decide +kernel, by decide +kernel, (fun h => absurd h (by decide)), (fun _ => (ab_t7 (List.mem_of_getElem? (i := 13) rfl))), (fun _ => ab_t0 (List.mem_of_getElem? (i := 139) rfl)), (fun h => absurd h (by decide)), by decide +kernel⟩
set_option maxRecDepth 10000 in
theorem abok_214 : abOk abm_214 := ⟨ab_t7 (List.mem_of_getElem? (i := 10) rfl), (ab_t1 (List.mem_of_getElem? (i := 11) rfl)), rfl, by decide +kernel, by decide +kernel, by decide +kernel, (fun h => absurd h (by decide)), (fun _ => (ab_t7 (List.mem_of_getElem? (i := 8) rfl))), (fun _ => (ab_t7 (List.mem_of_getElem? (i := 9) rfl))), (fun h => absurd h (by decide)), by decide +kernel⟩
set_option maxRecDepth 10000 in
theorem abok_215 : abOk abm_215 := ⟨ab_t7 (List.mem_of_getElem? (i := 22) rfl), (ab_t1 (List.mem_of_getElem? (i := 11) rfl)), rfl, by decide +kernel, by decide +kernel, by decide +kernel, (fun h => absurd h (by decide)), (fun _ => (ab_t7 (List.mem_of_getElem? (i := 21) rfl))), (fun _ => ab_t0 (List.mem_of_getElem? (i := 141) rfl)), (fun h => absurd h (by decide)), by decide +kernel⟩
set_option maxRecDepth 10000 in
theorem abok_216 : abOk abm_216 := ⟨ab_t7 (List.mem_of_getElem? (i := 34) rfl), (ab_t1 (List.mem_of_getElem? (i := 11) rfl)), rfl, by decide +kernel, by decide +kernel, by decide +kernel, (fun h => absurd h (by decide)), (fun _ => (ab_t7 (List.mem_of_getElem? (i := 33) rfl))), (fun _ => ab_t0 (List.mem_of_getElem? (i := 143) rfl)), (fun h => absurd h (by decide)), by decide +kernel⟩
set_option maxRecDepth 10000 in
theorem abok_217 : abOk abm_217 := ⟨ab_t7 (List.mem_of_getElem? (i := 57) rfl), (ab_t1 (List.mem_of_getElem? (i := 11) rfl)), rfl, by decide +kernel, by decide +kernel, by decide +kernel, (fun h => absurd h (by decide)), (fun _ => (ab_t7 (List.mem_of_getElem? (i := 56) rfl))), (fun _ => ab_t0 (List.mem_of_getElem? (i := 148) rfl)), (fun h => absurd h (by decide)), by decide +kernel⟩
set_option maxRecDepth 10000 in
theorem abok_218 : abOk abm_218 := ⟨ab_t7 (List.mem_of_getElem? (i := 42) rfl), (ab_t1 (List.mem_of_getElem? (i := 11) rfl)), rfl, by decide +kernel, by decide +kernel, by decide +kernel, (fun h => absurd h (by decide)), (fun _ => (ab_t7 (List.mem_of_getElem? (i := 41) rfl))), (fun _ => ab_t0 (List.mem_of_getElem? (i := 145) rfl)), (fun h => absurd h (by decide)), by decide +kernel⟩
set_option maxRecDepth 10000 in
theorem abok_219 : abOk abm_219 := ⟨ab_t7 (List.mem_of_getElem? (i := 53) rfl), (ab_t1 (List.mem_of_getElem? (i := 11) rfl)), rfl, by decide +kernel, by decide +kernel, by decide +kernel, (fun h => absurd h (by decide)), (fun _ => (ab_t7 (List.mem_of_getElem? (i := 52) rfl))), (fun _ => ab_t0 (List.mem_of_getElem? (i := 147) rfl)), (fun h => absurd h (by decide)), by decide +kernel⟩
set_option maxRecDepth 10000 in
theorem abok_220 : abOk abm_220 := ⟨ab_t7 (List.mem_of_getElem? (i := 61) rfl), (ab_t1 (List.mem_of_getElem? (i := 11) rfl)), rfl, by decide +kernel, by decide +kernel, by decide +kernel, (fun h => absurd h (by decide)), (fun _ => (ab_t7 (List.mem_of_getElem? (i := 60) rfl))), (fun _ => ab_t0 (List.mem_of_getElem? (i := 149) rfl)), (fun h => absurd h (by decide)), by decide +kernel⟩
set_option maxRecDepth 10000 in
theorem abok_221 : abOk abm_221 := ⟨ab_t7 (List.mem_of_getElem? (i := 46) rfl), (ab_t1 (List.mem_of_getElem? (i := 11) rfl)), rfl, by decide +kernel, by decide +kernel, by decide +kernel, (fun h => absurd h (by decide)), (fun _ => (ab_t7 (List.mem_of_getElem? (i := 45) rfl))), (fun _ => ab_t0 (List.mem_of_getElem? (i := 146) rfl)), (fun h => absurd h (by decide)), by decide +kernel⟩
set_option maxRecDepth 10000 in
theorem abok_222 : abOk abm_222 := ⟨ab_t7 (List.mem_of_getElem? (i := 38) rfl), (ab_t1 (List.mem_of_getElem? (i := 11) rfl)), rfl, by decide +kernel, by decide +kernel, by decide +kernel, (fun h => absurd h (by decide)), (fun _ => (ab_t7 (List.mem_of_getElem? (i := 37) rfl))), (fun _ => ab_t0 (List.mem_of_getElem? (i := 144) rfl)), (fun h => absurd h (by decide)), by decide +kernel⟩
set_option maxRecDepth 10000 in
theorem abok_223 : abOk abm_223 := ⟨ab_t7 (List.mem_of_getElem? (i := 30) rfl), (ab_t1 (List.mem_of_getElem? (i := 11) rfl)), rfl, by decide +kernel, by decide +kernel, by decide +kernel, (fun h => absurd h (by decide)), (fun _ => (ab_t7 (List.mem_of_getElem? (i := 29) rfl))), (fun _ => ab_t0 (List.mem_of_getElem? (i := 142) rfl)), (fun h => absurd h (by decide)), by decide +kernel⟩
set_option maxRecDepth 10000 in
theorem abok_224 : abOk abm_224 := ⟨ab_t7 (List.mem_of_getElem? (i := 26) rfl), (ab_t1 (List.mem_of_getElem? (i := 11) rfl)), rfl, by decide +kernel, by decide +kernel, by decide +kernel, (fun h => absurd h (by decide)), (fun _ => (ab_t7 (List.mem_of_getElem? (i := 24) rfl))), (fun _ => (ab_t7 (List.mem_of_getElem? (i := 25) rfl))), (fun h => absurd h (by decide)), by decide +kernel⟩
set_option maxRecDepth 10000 in
theorem abok_225 : abOk abm_225 := ⟨ab_t7 (List.mem_of_getElem? (i := 69) rfl), (ab_t1 (List.mem_of_getElem? (i := 11) rfl)), rfl, by decide +kernel, by decide +kernel, by decide +kernel, (fun h => absurd h (by decide)), (fun _ => (ab_t7 (List.mem_of_getElem? (i := 68) rfl))), (fun _ => ab_t0 (List.mem_of_getElem? (i := 150) rfl)), (fun h => absurd h (by decide)), by decide +kernel⟩
set_option maxRecDepth 10000 in
theorem abok_226 : abOk abm_226 := ⟨ab_t7 (List.mem_of_getElem? (i := 65) rfl), (ab_t1 (List.mem_of_getElem? (i := 11) rfl)), rfl, by decide +kernel, by decide +kernel, by decide +kernel, (fun h => absurd h (by decide)), (fun _ => (ab_t7 (List.mem_of_getElem? (i := 63) rfl))), (fun _ => (ab_t7 (List.mem_of_getElem? (i := 64) rfl))), (fun h => absurd h (by decide)), by decide +kernel⟩
set_option maxRecDepth 10000 in
theorem abok_227 : abOk abm_227 := ⟨ab_t7 (List.mem_of_getElem? (i := 78) rfl), (ab_t1 (List.mem_of_getElem? (i := 11) rfl)), rfl, by decide +kernel, by decide +kernel, by decide +kernel, (fun h => absurd h (by decide)), (fun _ => (ab_t7 (List.mem_of_getElem? (i := 77) rfl))), (fun _ => ab_t0 (List.mem_of_getElem? (i := 151) rfl)), (fun h => absurd h (by decide)), by decide +kernel⟩
set_option maxRecDepth 10000 in
theorem abok_228 : abOk abm_228 := ⟨ab_t7 (List.mem_of_getElem? (i := 74) rfl), (ab_t1 (List.mem_of_getElem? (i := 11) rfl)), rfl, by decide +kernel, by decide +kernel, by decide +kernel, (fun h => absurd h (by decide)), (fun _ => (ab_t7 (List.mem_of_getElem? (i := 72) rfl))), (fun _ => (ab_t7 (List.mem_of_getElem? (i := 73) rfl))), (fun h => absurd h (by decide)), by decide +kernel⟩
set_option maxRecDepth 10000 in
theorem abok_229 : abOk abm_229 := ⟨ab_t7 (List.mem_of_getElem? (i := 93) rfl), (ab_t1 (List.mem_of_getElem? (i := 11) rfl)), rfl, by decide +kernel, by decide +kernel, by decide +kernel, (fun h => absurd h (by decide)), (fun _ => (ab_t7 (List.mem_of_getElem? (i := 92) rfl))), (fun _ => ab_t0 (List.mem_of_getElem? (i := 153) rfl)), (fun h => absurd h (by decide)), by decide +kernel⟩
set_option maxRecDepth 10000 in
theorem abok_230 : abOk abm_230 := ⟨ab_t7 (List.mem_of_getElem? (i := 89) rfl), (ab_t1 (List.mem_of_getElem? (i := 11) rfl)), rfl, by decide +kernel, by decide +kernel, by decide +kernel, (fun h => absurd h (by decide)), (fun _ => (ab_t7 (List.mem_of_getElem? (i := 88) rfl))), (fun _ => ab_t0 (List.mem_of_getElem? (i := 152) rfl)), (fun h => absurd h (by decide)), by decide +kernel⟩
set_option maxRecDepth 10000 in
theorem abok_231 : abOk abm_231 := ⟨ab_t7 (List.mem_of_getElem? (i := 121) rfl), (ab_t1 (List.mem_of_getElem? (i := 11) rfl)), rfl, by decide +kernel, by decide +kernel, by decide +kernel, (fun h => absurd h (by decide)), (fun _ => (ab_t7 (List.mem_of_getElem? (i := 120) rfl))), (fun _ => ab_t0 (List.mem_of_getElem? (i := 155) rfl)), (fun h => absurd h (by decide)), by decide +kernel⟩
set_option maxRecDepth 10000 in
theorem abok_232 : abOk abm_232 := ⟨ab_t7 (List.mem_of_getElem? (i := 85) rfl), (ab_t1 (List.mem_of_getElem? (i := 11) rfl)), rfl, by decide +kernel, by decide +kernel, by decide +kernel, (fun _ => (ab_t7 (List.mem_of_getElem? (i := 84) rfl))), (fun h => absurd rfl h), (fun h => absurd h (by decide)), (fun h => absurd h (by decide)), by decide +kernel⟩
set_option maxRecDepth 10000 in
theorem abok_233 : abOk abm_233 := ⟨ab_t7 (List.mem_of_getElem? (i := 82) rfl), (ab_t1 (List.mem_of_getElem? (i := 11) rfl)), rfl, by decide +kernel, by decide +kernel, by decide +kernel, (fun h => absurd h (by decide)), (fun _ => (ab_t7 (List.mem_of_getElem? (i := 80) rfl))), (fun _ => (ab_t7 (List.mem_of_getElem? (i := 81) rfl))), (fun h => absurd h (by decide)), by decide +kernel⟩
set_option maxRecDepth 10000 in
theorem abok_234 : abOk abm_234 := ⟨ab_t7 (List.mem_of_getElem? (i := 97) rfl), (ab_t1 (List.mem_of_getElem? (i := 11) rfl)), rfl, by decide +kernel, by decide +kernel, by decide +kernel, (fun h => absurd h (by decide)), (fun _ => (ab_t7 (List.mem_of_getElem? (i := 95) rfl))), (fun _ => (ab_t7 (List.mem_of_getElem? (i := 96) rfl))), (fun h => absurd h (by decide)), by decide +kernel⟩
set_option maxRecDepth 10000 in
theorem abok_235 : abOk abm_235 := ⟨ab_t7 (List.mem_of_getElem? (i := 101) rfl), (ab_t1 (List.mem_of_getElem? (i := 11) rfl)), rfl, by decide +kernel, by decide +kernel, by decide +kernel, (fun h => absurd h (by decide)), (fun _ => (ab_t7 (List.mem_of_getElem? (i := 99) rfl))), (fun _ => (ab_t7 (List.mem_of_getElem? (i := 100) rfl))), (fun h => absurd h (by decide)), by decide +kernel⟩
set_option maxRecDepth 10000 in
theorem abok_236 : abOk abm_236 := ⟨ab_t7 (List.mem_of_getElem? (i := 105) rfl), (ab_t1 (List.mem_of_getElem? (i := 11) rfl)), rfl, by decide +kernel, by decide +kernel, by decide +kernel, (fun h => absurd h (by decide)), (fun _ => (ab_t7 (List.mem_of_getElem? (i := 103) rfl))), (fun _ => (ab_t7 (List.mem_of_getElem? (i := 104) rfl))), (fun h => absurd h (by decide)), by decide +kernel⟩
set_option maxRecDepth 10000 in
theorem abok_237 : abOk abm_237 := ⟨ab_t7 (List.mem_of_getElem? (i := 113) rfl), (ab_t1 (List.mem_of_getElem? (i := 11) rfl)), rfl, by decide +kernel, by decide +kernel, by decide +kernel, (fun h => absurd h (by decide)), (fun _ => (ab_t7 (List.mem_of_getElem? (i := 112) rfl))), (fun _ => ab_t0 (List.mem_of_getElem? (i := 154) rfl)), (fun h => absurd h (by decide)), by decide +kernel⟩
set_option maxRecDepth 10000 in
theorem abok_238 : abOk abm_238 := ⟨ab_t7 (List.mem_of_getElem? (i := 109) rfl), (ab_t1 (List.mem_of_getElem? (i := 11) rfl)), rfl, by decide +kernel, by decide +kernel, by decide +kernel, (fun h => absurd h (by decide)), (fun _ => (ab_t7 (List.mem_of_getElem? (i := 107) rfl))), (fun _ => (ab_t7 (List.mem_of_getElem? (i := 108) rfl))), (fun h => absurd h (by decide)), by decide +kernel⟩
set_option maxRecDepth 10000 in
theorem abok_239 : abOk abm_239 := ⟨ab_t7 (List.mem_of_getElem? (i := 125) rfl), (ab_t1 (List.mem_of_getElem? (i := 11) rfl)), rfl, by decide +kernel, by decide +kernel, by decide +kernel, (fun h => absurd h (by decide)), (fun _ => (ab_t7 (List.mem_of_getElem? (i := 124) rfl))), (fun _ => ab_t0 (List.mem_of_getElem? (i := 156) rfl)), (fun h => absurd h (by decide)), by decide +kernel⟩
set_option maxRecDepth 10000 in
theorem abok_240 : abOk abm_240 := ⟨ab_t7 (List.mem_of_getElem? (i := 117) rfl), (ab_t1 (List.mem_of_getElem? (i := 11) rfl)), rfl, by decide +kernel, by decide +kernel, by decide +kernel, (fun h => absurd h (by decide)), (fun _ => (ab_t7 (List.mem_of_getElem? (i := 115) rfl))), (fun _ => (ab_t7 (List.mem_of_getElem? (i := 116) rfl))), (fun h => absurd h (by decide)), by decide +kernel⟩
set_option maxRecDepth 10000 in
theorem abok_241 : abOk abm_241 := ⟨ab_t7 (List.mem_of_getElem? (i := 133) rfl), (ab_t1 (List.mem_of_getElem? (i := 11) rfl)), rfl, by decide +kernel, by decide +kernel, by decide +kernel, (fun h => absurd h (by decide)), (fun _ => (ab_t7 (List.mem_of_getElem? (i := 132) rfl))), (fun _ => ab_t0 (List.mem_of_getElem? (i := 157) rfl)), (fun h => absurd h (by decide)), by decide +kernel⟩
set_option maxRecDepth 10000 in
theorem abok_242 : abOk abm_242 := ⟨ab_t7 (List.mem_of_getElem? (i := 129) rfl), (ab_t1 (List.mem_of_getElem? (i := 11) rfl)), rfl, by decide +kernel, by decide +kernel, by decide +kernel, (fun h => absurd h (by decide)), (fun _ => (ab_t7 (List.mem_of_getElem? (i := 127) rfl))), (fun _ => (ab_t7 (List.mem_of_getElem? (i := 128) rfl))), (fun h => absurd h (by decide)), by decide +kernel⟩
set_option maxRecDepth 10000 in
theorem abok_243 : abOk abm_243 := ⟨ab_t7 (List.mem_of_getElem? (i := 141) rfl), (ab_t1 (List.mem_of_getElem? (i := 11) rfl)), rfl, by decide +kernel, by decide +kernel, by decide +kernel, (fun h => absurd h (by decide)), (fun _ => (ab_t7 (List.mem_of_getElem? (i := 140) rfl))), (fun _ => ab_t0 (List.mem_of_getElem? (i := 158) rfl)), (fun h => absurd h (by decide)), by decide +kernel⟩
set_option maxRecDepth 10000 in
theorem abok_244 : abOk abm_244 := ⟨ab_t7 (List.mem_of_getElem? (i := 137) rfl), (ab_t1 (List.mem_of_getElem? (i := 11) rfl)), rfl, by decide +kernel, by decide +kernel, by decide +kernel, (fun h => absurd h (by decide)), (fun _ => (ab_t7 (List.mem_of_getElem? (i := 135) rfl))), (fun _ => (ab_t7 (List.mem_of_getElem? (i := 136) rfl))), (fun h => absurd h (by decide)), by decide +kernel⟩
set_option maxRecDepth 10000 in
theorem abok_245 : abOk abm_245 := ⟨ab_t7 (List.mem_of_getElem? (i := 145) rfl), (ab_t1 (List.mem_of_getElem? (i := 11) rfl)), rfl, by decide +kernel, by decide +kernel, by decide +kernel, (fun h => absurd h (by decide)), (fun _ => (ab_t7 (List.mem_of_getElem? (i := 143) rfl))), (fun _ => (ab_t7 (List.mem_of_getElem? (i := 144) rfl))), (fun h => absurd h (by decide)), by decide +kernel⟩
set_option maxRecDepth 10000 in
theorem abok_246 : abOk abm_246 := ⟨ab_t7 (List.mem_of_getElem? (i := 153) rfl), (ab_t1 (List.mem_of_getElem? (i := 11) rfl)), rfl, by decide +kernel, by decide +kernel, by decide +kernel, (fun h => absurd h (by decide)), (fun _ => (ab_t7 (List.mem_of_getElem? (i := 152) rfl))), (fun _ => ab_t0 (List.mem_of_getElem? (i := 159) rfl)), (fun h => absurd h (by decide)), by decide +kernel⟩
set_option maxRecDepth 10000 in
theorem abok_247 : abOk abm_247 := ⟨ab_t7 (List.mem_of_getElem? (i := 157) rfl), (ab_t1 (List.mem_of_getElem? (i := 11) rfl)), rfl, by decide +kernel, by decide +kernel, by decide +kernel, (fun h => absurd h (by decide)), (fun _ => (ab_t7 (List.mem_of_getElem? (i := 156) rfl))), (fun _ => ab_t0 (List.mem_of_getElem? (i := 160) rfl)), (fun h => absurd h (by decide)), by decide +kernel⟩
set_option maxRecDepth 10000 in
theorem abok_248 : abOk abm_248 := ⟨ab_t7 (List.mem_of_getElem? (i := 161) rfl), (ab_t1 (List.mem_of_getElem? (i := 11) rfl)), rfl, by decide +kernel, by decide +kernel, by decide +kernel, (fun h => absurd h (by decide)), (fun _ => (ab_t7 (List.mem_of_getElem? (i := 160) rfl))), (fun _ => ab_t0 (List.mem_of_getElem? (i := 161) rfl)), (fun h => absurd h (by decide)), by decide +kernel⟩
set_option maxRecDepth 10000 in
theorem abok_249 : abOk abm_249 := ⟨ab_t7 (List.mem_of_getElem? (i := 149) rfl), (ab_t1 (List.mem_of_getElem? (i := 11) rfl)), rfl, by decide +kernel, by decide +kernel, by decide +kernel, (fun h => absurd h (by decide)), (fun _ => (ab_t7 (List.mem_of_getElem? (i := 147) rfl))), (fun _ => (ab_t7 (List.mem_of_getElem? (i := 148) rfl))), (fun h => absurd h (by decide)), by decide +kernel⟩
set_option maxRecDepth 10000 in
theorem abok_250 : abOk abm_250 := ⟨ab_t7 (List.mem_of_getElem? (i := 177) rfl), (ab_t1 (List.mem_of_getElem? (i := 11) rfl)), rfl, by decide +kernel, by decide +kernel, by decide +kernel, (fun h => absurd h (by decide)), (fun _ => (ab_t7 (List.mem_of_getElem? (i := 176) rfl))), (fun _ => ab_t0 (List.mem_of_getElem? (i := 164) rfl)), (fun h => absurd h (by decide)), by decide +kernel⟩
set_option maxRecDepth 10000 in
theorem abok_251 : abOk abm_251 := ⟨ab_t7 (List.mem_of_getElem? (i := 169) rfl), (ab_t1 (List.mem_of_getElem? (i := 11) rfl)), rfl, by decide +kernel, by decide +kernel, by decide +kernel, (fun h => absurd h (by decide)), (fun _ => (ab_t7 (List.mem_of_getElem? (i := 168) rfl))), (fun _ => ab_t0 (List.mem_of_getElem? (i := 162) rfl)), (fun h => absurd h (by decide)), by decide +kernel⟩
set_option maxRecDepth 10000 in
theorem abok_252 : abOk abm_252 := ⟨ab_t7 (List.mem_of_getElem? (i := 165) rfl), (ab_t1 (List.mem_of_getElem? (i := 11) rfl)), rfl, by decide +kernel, by decide +kernel, by decide +kernel, (fun h => absurd h (by decide)), (fun _ => (ab_t7 (List.mem_of_getElem? (i := 163) rfl))), (fun _ => (ab_t7 (List.mem_of_getElem? (i := 164) rfl))), (fun h => absurd h (by decide)), by decide +kernel⟩
set_option maxRecDepth 10000 in
theorem abok_253 : abOk abm_253 := ⟨ab_t7 (List.mem_of_getElem? (i := 185) rfl), (ab_t1 (List.mem_of_getElem? (i := 11) rfl)), rfl, by decide +kernel, by decide +kernel, by decide +kernel, (fun h => absurd h (by decide)), (fun _ => (ab_t7 (List.mem_of_getElem? (i := 184) rfl))), (fun _ => ab_t0 (List.mem_of_getElem? (i := 165) rfl)), (fun h => absurd h (by decide)), by decide +kernel⟩
set_option maxRecDepth 10000 in
theorem abok_254 : abOk abm_254 := ⟨ab_t7 (List.mem_of_getElem? (i := 181) rfl), (ab_t1 (List.mem_of_getElem? (i := 11) rfl)), rfl, by decide +kernel, by decide +kernel, by decide +kernel, (fun h => absurd h (by decide)), (fun _ => (ab_t7 (List.mem_of_getElem? (i := 179) rfl))), (fun _ => (ab_t7 (List.mem_of_getElem? (i := 180) rfl))), (fun h => absurd h (by decide)), by decide +kernel⟩
set_option maxRecDepth 10000 in
theorem abok_255 : abOk abm_255 := ⟨ab_t7 (List.mem_of_getElem? (i := 189) rfl), (ab_t1 (List.mem_of_getElem? (i := 11) rfl)), rfl, by decide +kernel, by decide +kernel, by decide +kernel, (fun h => absurd h (by decide)), (fun _ => (ab_t7 (List.mem_of_getElem? (i := 187) rfl))), (fun _ => (ab_t7 (List.mem_of_getElem? (i := 188) rfl))), (fun h => absurd h (by decide)), by decide +kernel⟩
set_option maxRecDepth 10000 in
theorem abok_256 : abOk abm_256 := ⟨ab_t7 (List.mem_of_getElem? (i := 197) rfl), (ab_t1 (List.mem_of_getElem? (i := 11) rfl)), rfl, by decide +kernel, by decide +kernel, by decide +kernel, (fun h => absurd h (by decide)), (fun _ => (ab_t7 (List.mem_of_getElem? (i := 196) rfl))), (fun _ => ab_t0 (List.mem_of_getElem? (i := 166) rfl)), (fun h => absurd h (by decide)), by decide +kernel⟩
set_option maxRecDepth 10000 in
theorem abok_257 : abOk abm_257 := ⟨ab_t7 (List.mem_of_getElem? (i := 201) rfl), (ab_t1 (List.mem_of_getElem? (i := 11) rfl)), rfl, by decide +kernel, by decide +kernel, by decide +kernel, (fun h => absurd h (by decide)), (fun _ => (ab_t7 (List.mem_of_getElem? (i := 200) rfl))), (fun _ => ab_t0 (List.mem_of_getElem? (i := 167) rfl)), (fun h => absurd h (by decide)), by decide +kernel⟩
set_option maxRecDepth 10000 in
theorem abok_258 : abOk abm_258 := ⟨ab_t7 (List.mem_of_getElem? (i := 193) rfl), (ab_t1 (List.mem_of_getElem? (i := 11) rfl)), rfl, by decide +kernel, by decide +kernel, by decide +kernel, (fun h => absurd h (by decide)), (fun _ => (ab_t7 (List.mem_of_getElem? (i := 191) rfl))), (fun _ => (ab_t7 (List.mem_of_getElem? (i := 192) rfl))), (fun h => absurd h (by decide)), by decide +kernel⟩
set_option maxRecDepth 10000 in
theorem abok_259 : abOk abm_259 := ⟨ab_t7 (List.mem_of_getElem? (i := 209) rfl), (ab_t1 (List.mem_of_getElem? (i := 11) rfl)), rfl, by decide +kernel, by decide +kernel, by decide +kernel, (fun h => absurd h (by decide)), (fun _ => (ab_t7 (List.mem_of_getElem? (i := 208) rfl))), (fun _ => ab_t0 (List.mem_of_getElem? (i := 168) rfl)), (fun h => absurd h (by decide)), by decide +kernel⟩
set_option maxRecDepth 10000 in
theorem abok_260 : abOk abm_260 := ⟨ab_t7 (List.mem_of_getElem? (i := 205) rfl), (ab_t1 (List.mem_of_getElem? (i := 11) rfl)), rfl, by decide +kernel, by decide +kernel, by decide +kernel, (fun h => absurd h (by decide)), (fun _ => (ab_t7 (List.mem_of_getElem? (i := 203) rfl))), (fun _ => (ab_t7 (List.mem_of_getElem? (i := 204) rfl))), (fun h => absurd h (by decide)), by decide +kernel⟩
set_option maxRecDepth 10000 in
theorem abok_261 : abOk abm_261 := ⟨ab_t7 (List.mem_of_getElem? (i := 217) rfl), (ab_t1 (List.mem_of_getElem? (i := 11) rfl)), rfl, by decide +kernel, by decide +kernel, by decide +kernel, (fun h => absurd h (by decide)), (fun _ => (ab_t7 (List.mem_of_getElem? (i := 216) rfl))), (fun _ => ab_t0 (List.mem_of_getElem? (i := 169) rfl)), (fun h => absurd h (by decide)), by decide +kernel⟩
set_option maxRecDepth 10000 in
theorem abok_262 : abOk abm_262 := ⟨ab_t7 (List.mem_of_getElem? (i := 213) rfl), (ab_t1 (List.mem_of_getElem? (i := 11) rfl)), rfl, by decide +kernel, by decide +kernel, by decide +kernel, (fun h => absurd h (by decide)), (fun _ => (ab_t7 (List.mem_of_getElem? (i := 211) rfl))), (fun _ => (ab_t7 (List.mem_of_getElem? (i := 212) rfl))), (fun h => absurd h (by decide)), by decide +kernel⟩
set_option maxRecDepth 10000 in
theorem abok_263 : abOk abm_263 := ⟨ab_t7 (List.mem_of_getElem? (i := 221) rfl), (ab_t1 (List.mem_of_getElem? (i := 11) rfl)), rfl, by decide +kernel, by decide +kernel, by decide +kernel, (fun h => absurd h (by decide)), (fun _ => (ab_t7 (List.mem_of_getElem? (i := 219) rfl))), (fun _ => (ab_t7 (List.mem_of_getElem? (i := 220) rfl))), (fun h => absurd h (by decide)), by decide +kernel⟩
set_option maxRecDepth 10000 in
theorem abok_264 : abOk abm_264 := ⟨ab_t7 (List.mem_of_getElem? (i := 225) rfl), (ab_t1 (List.mem_of_getElem? (i := 11) rfl)), rfl, by decide +kernel, by decide +kernel, by decide +kernel, (fun h => absurd h (by decide)), (fun _ => (ab_t7 (List.mem_of_getElem? (i := 223) rfl))), (fun _ => (ab_t7 (List.mem_of_getElem? (i := 224) rfl))), (fun h => absurd h (by decide)), by decide +kernel⟩
set_option maxRecDepth 10000 in
theorem abok_265 : abOk abm_265 := ⟨ab_t7 (List.mem_of_getElem? (i := 229) rfl), (ab_t1 (List.mem_of_getElem? (i := 11) rfl)), rfl, by decide +kernel, by decide +kernel, by decide +kernel, (fun h => absurd h (by decide)), (fun _ => (ab_t7 (List.mem_of_getElem? (i := 227) rfl))), (fun _ => (ab_t7 (List.mem_of_getElem? (i := 228) rfl))), (fun h => absurd h (by decide)), by decide +kernel⟩
set_option maxRecDepth 10000 in
theorem abok_266 : abOk abm_266 := ⟨ab_t7 (List.mem_of_getElem? (i := 233) rfl), (ab_t1 (List.mem_of_getElem? (i := 11) rfl)), rfl, by decide +kernel, by decide +kernel, by decide +kernel, (fun h => absurd h (by decide)), (fun _ => (ab_t7 (List.mem_of_getElem? (i := 231) rfl))), (fun _ => (ab_t7 (List.mem_of_getElem? (i := 232) rfl))), (fun h => absurd h (by decide)), by decide +kernel⟩
set_option maxRecDepth 10000 in
theorem abok_267 : abOk abm_267 := ⟨ab_t7 (List.mem_of_getElem? (i := 237) rfl), (ab_t1 (List.mem_of_getElem? (i := 11) rfl)), rfl, by decide +kernel, by decide +kernel, by decide +kernel, (fun h => absurd h (by decide)), (fun _ => (ab_t7 (List.mem_of_getElem? (i := 235) rfl))), (fun _ => (ab_t7 (List.mem_of_getElem? (i := 236) rfl))), (fun h => absurd h (by decide)), by decide +kernel⟩
set_option maxRecDepth 10000 in
theorem abok_268 : abOk abm_268 := ⟨ab_t8 (List.mem_of_getElem? (i := 1) rfl), (ab_t1 (List.mem_of_getElem? (i := 11) rfl)), rfl, by decide +kernel, by decide +kernel, by decide +kernel, (fun h => absurd h (by decide)), (fun _ => (ab_t7 (List.mem_of_getElem? (i := 239) rfl))), (fun _ => (ab_t8 (List.mem_of_getElem? (i := 0) rfl))), (fun h => absurd h (by decide)), by decide +kernel⟩
set_option maxRecDepth 10000 in
theorem abok_269 : abOk abm_269 := ⟨ab_t8 (List.mem_of_getElem? (i := 5) rfl), (ab_t1 (List.mem_of_getElem? (i := 11) rfl)), rfl, by decide +kernel, by decide +kernel, by decide +kernel, (fun h => absurd h (by decide)), (fun _ => (ab_t8 (List.mem_of_getElem? (i := 3) rfl))), (fun _ => (ab_t8 (List.mem_of_getElem? (i := 4) rfl))), (fun h => absurd h (by decide)), by decide +kernel⟩
set_option maxRecDepth 10000 in
theorem abok_270 : abOk abm_270 := ⟨ab_t8 (List.mem_of_getElem? (i := 9) rfl), (ab_t1 (List.mem_of_getElem? (i := 11) rfl)), rfl, by decide +kernel, by decide +kernel, by decide +kernel, (fun h => absurd h (by decide)), (fun _ => (ab_t8 (List.mem_of_getElem? (i := 7) rfl))), (fun _ => (ab_t8 (List.mem_of_getElem? (i := 8) rfl))), (fun h => absurd h (by decide)), by decide +kernel⟩
set_option maxRecDepth 10000 in
theorem abok_271 : abOk abm_271 := ⟨ab_t3 (List.mem_of_getElem? (i := 237) rfl), (ab_t1 (List.mem_of_getElem? (i := 19) rfl)), rfl, by decide +kernel, by decide +kernel, by decide +kernel, (fun _ => (ab_t3 (List.mem_of_getElem? (i := 236) rfl))), (fun h => absurd rfl h), (fun h => absurd h (by decide)), (fun h => absurd h (by decide)), by decide +kernel⟩
set_option maxRecDepth 10000 in
theorem abok_272 : abOk abm_272 := ⟨ab_t5 (List.mem_of_getElem? (i := 3) rfl), (ab_t1 (List.mem_of_getElem? (i := 19) rfl)), rfl, by decide +kernel, by decide +kernel, by decide +kernel, (fun _ => (ab_t5 (List.mem_of_getElem? (i := 2) rfl))), (fun h => absurd rfl h), (fun h => absurd h (by decide)), (fun h => absurd h (by decide)), by decide +kernel⟩
set_option maxRecDepth 10000 in
theorem abok_273 : abOk abm_273 := ⟨ab_t4 (List.mem_of_getElem? (i := 9) rfl), (ab_t1 (List.mem_of_getElem? (i := 19) rfl)), rfl, by decide +kernel, by decide +kernel, by decide +kernel, (fun _ => (ab_t4 (List.mem_of_getElem? (i := 8) rfl))), (fun h => absurd rfl h), (fun h => absurd h (by decide)), (fun h => absurd h (by decide)), by decide +kernel⟩
set_option maxRecDepth 10000 in
theorem abok_274 : abOk abm_274 := ⟨ab_t4 (List.mem_of_getElem? (i := 0) rfl), (ab_t1 (List.mem_of_getElem? (i := 19) rfl)), rfl, by decide +kernel, by decide +kernel, by decide +kernel, (fun _ => (ab_t3 (List.mem_of_getElem? (i := 239) rfl))), (fun h => absurd rfl h), (fun h => absurd h (by decide)), (fun h => absurd h (by decide)), by decide +kernel⟩
set_option maxRecDepth 10000 in
theorem abok_275 : abOk abm_275 := ⟨ab_t4 (List.mem_of_getElem? (i := 12) rfl), (ab_t1 (List.mem_of_getElem? (i := 19) rfl)), rfl, by decide +kernel, by decide +kernel, by decide +kernel, (fun _ => (ab_t4 (List.mem_of_getElem? (i := 11) rfl))), (fun h => absurd rfl h), (fun h => absurd h (by decide)), (fun h => absurd h (by decide)), by decide +kernel⟩
set_option maxRecDepth 10000 in
theorem abok_276 : abOk abm_276 := ⟨ab_t4 (List.mem_of_getElem? (i := 16) rfl), (ab_t1 (List.mem_of_getElem? (i := 19) rfl)), rfl, by decide +kernel, by decide +kernel, by decide +kernel, (fun _ => (ab_t4 (List.mem_of_getElem? (i := 15) rfl))), (fun h => absurd rfl h), (fun h => absurd h (by decide)), (fun h => absurd h (by decide)), by decide +kernel⟩
set_option maxRecDepth 10000 in
theorem abok_277 : abOk abm_277 := ⟨ab_t5 (List.mem_of_getElem? (i := 32) rfl), (ab_t1 (List.mem_of_getElem? (i := 19) rfl)), rfl, by decide +kernel, by decide +kernel, by decide +kernel, (fun _ => (ab_t5 (List.mem_of_getElem? (i := 31) rfl))), (fun h => absurd rfl h), (fun h => absurd h (by decide)), (fun h => absurd h (by decide)), by decide +kernel⟩
set_option maxRecDepth 10000 in
theorem abok_278 : abOk abm_278 := ⟨ab_t4 (List.mem_of_getElem? (i := 48) rfl), (ab_t1 (List.mem_of_getElem? (i := 19) rfl)), rfl, by decide +kernel, by decide +kernel, by decide +kernel, (fun _ => (ab_t4 (List.mem_of_getElem? (i := 47) rfl))), (fun h => absurd rfl h), (fun h => absurd h (by decide)), (fun h => absurd h (by decide)), by decide +kernel⟩
set_option maxRecDepth 10000 in
theorem abok_279 : abOk abm_279 := ⟨ab_t4 (List.mem_of_getElem? (i := 51) rfl), (ab_t1 (List.mem_of_getElem? (i := 19) rfl)), rfl, by decide +kernel, by decide +kernel, by decide +kernel, (fun _ => (ab_t4 (List.mem_of_getElem? (i := 50) rfl))), (fun h => absurd rfl h), (fun h => absurd h (by decide)), (fun h => absurd h (by decide)), by decide +kernel⟩
set_option maxRecDepth 10000 in
theorem abok_280 : abOk abm_280 := ⟨ab_t4 (List.mem_of_getElem? (i := 68) rfl), (ab_t1 (List.mem_of_getElem? (i := 19) rfl)), rfl, by decide +kernel, by decide +kernel, by decide +kernel, (fun _ => (ab_t4 (List.mem_of_getElem? (i := 67) rfl))), (fun h => absurd rfl h), (fun h => absurd h (by decide)), (fun h => absurd h (by decide)), by decide +kernel⟩
set_option maxRecDepth 10000 in
theorem abok_281 : abOk abm_281 := ⟨ab_t4 (List.mem_of_getElem? (i := 65) rfl), (ab_t1 (List.mem_of_getElem? (i := 19) rfl)), rfl, by decide +kernel, by decide +kernel, by decide +kernel, (fun _ => (ab_t4 (List.mem_of_getElem? (i := 64) rfl))), (fun h => absurd rfl h), (fun h => absurd h (by decide)), (fun h => absurd h (by decide)), by decide +kernel⟩
set_option maxRecDepth 10000 in
theorem abok_282 : abOk abm_282 := ⟨ab_t4 (List.mem_of_getElem? (i := 73) rfl), (ab_t1 (List.mem_of_getElem? (i := 19) rfl)), rfl, by decide +kernel, by decide +kernel, by decide +kernel, (fun _ => (ab_t4 (List.mem_of_getElem? (i := 72) rfl))), (fun h => absurd rfl h), (fun h => absurd h (by decide)), (fun h => absurd h (by decide)), by decide +kernel⟩
set_option maxRecDepth 10000 in
theorem abok_283 : abOk abm_283 := ⟨ab_t4 (List.mem_of_getElem? (i := 3) rfl), (ab_t1 (List.mem_of_getElem? (i := 20) rfl)), rfl, by decide +kernel, by decide +kernel, by decide +kernel, (fun _ => (ab_t4 (List.mem_of_getElem? (i := 2) rfl))), (fun h => absurd rfl h), (fun h => absurd h (by decide)), (fun h => absurd h (by decide)), by decide +kernel⟩
set_option maxRecDepth 10000 in
theorem abok_284 : abOk abm_284 := ⟨ab_t2 (List.mem_of_getElem? (i := 203) rfl), (ab_t1 (List.mem_of_getElem? (i := 12) rfl)), rfl, by decide +kernel, by decide +kernel, by decide +kernel, (fun h => absurd h (by decide)), (fun _ => (ab_t2 (List.mem_of_getElem? (i := 201) rfl))), (fun _ => (ab_t2 (List.mem_of_getElem? (i := 202) rfl))), (fun h => absurd h (by decide)), by decide +kernel⟩
set_option maxRecDepth 10000 in
theorem abok_285 : abOk abm_285 := ⟨ab_t2 (List.mem_of_getElem? (i := 213) rfl), (ab_t1 (List.mem_of_getElem? (i := 12) rfl)), rfl, by decide +kernel, by decide +kernel, by decide +kernel, (fun h => absurd h (by decide)), (fun _ => (ab_t2 (List.mem_of_getElem? (i := 211) rfl))), (fun _ => (ab_t2 (List.mem_of_getElem? (i := 212) rfl))), (fun h => absurd h (by decide)), by decide +kernel⟩
set_option maxRecDepth 10000 in
theorem abok_286 : abOk abm_286 := ⟨ab_t2 (List.mem_of_getElem? (i := 207) rfl), (ab_t1 (List.mem_of_getElem? (i := 12) rfl)), rfl, by decide +kernel, by decide +kernel, by decide +kernel, (fun h => absurd h (by decide)), (fun _ => (ab_t2 (List.mem_of_getElem? (i := 205) rfl))), (fun _ => (ab_t2 (List.mem_of_getElem? (i := 206) rfl))), (fun h => absurd h (by decide)), by decide +kernel⟩
set_option maxRecDepth 10000 in
theorem abok_287 : abOk abm_287 := ⟨ab_t2 (List.mem_of_getElem? (i := 217) rfl), (ab_t1 (List.mem_of_getElem? (i := 12) rfl)), rfl, by decide +kernel, by decide +kernel, by decide +kernel, (fun h => absurd h (by decide)), (fun _ => (ab_t2 (List.mem_of_getElem? (i := 215) rfl))), (fun _ => (ab_t2 (List.mem_of_getElem? (i := 216) rfl))), (fun h => absurd h (by decide)), by decide +kernel⟩
set_option maxRecDepth 10000 in
theorem abok_288 : abOk abm_288 := ⟨ab_t2 (List.mem_of_getElem? (i := 223) rfl), (ab_t1 (List.mem_of_getElem? (i := 12) rfl)), rfl, by decide +kernel, by decide +kernel, by decide +kernel, (fun _ => (ab_t2 (List.mem_of_getElem? (i := 222) rfl))), (fun h => absurd rfl h), (fun h => absurd h (by decide)), (fun h => absurd h (by decide)), by decide +kernel⟩
set_option maxRecDepth 10000 in
theorem abok_289 : abOk abm_289 := ⟨ab_t2 (List.mem_of_getElem? (i := 220) rfl), (ab_t1 (List.mem_of_getElem? (i := 13) rfl)), rfl, by decide +kernel, by decide +kernel, by decide +kernel, (fun _ => (ab_t2 (List.mem_of_getElem? (i := 219) rfl))), (fun h => absurd rfl h), (fun h => absurd h (by decide)), (fun h => absurd h (by decide)), by decide +kernel⟩
set_option maxRecDepth 10000 in
theorem abok_290 : abOk abm_290 := ⟨ab_t3 (List.mem_of_getElem? (i := 1) rfl), (ab_t1 (List.mem_of_getElem? (i := 15) rfl)), rfl, by decide +kernel, by decide +kernel, by decide +kernel, (fun _ => (ab_t3 (List.mem_of_getElem? (i := 0) rfl))), (fun h => absurd rfl h), (fun h => absurd h (by decide)), (fun h => absurd h (by decide)), by decide +kernel⟩
set_option maxRecDepth 10000 in
theorem abok_291 : abOk abm_291 := ⟨ab_t2 (List.mem_of_getElem? (i := 237) rfl), (ab_t1 (List.mem_of_getElem? (i := 15) rfl)), rfl, by decide +kernel, by decide +kernel, by decide +kernel, (fun _ => (ab_t2 (List.mem_of_getElem? (i := 236) rfl))), (fun h => absurd rfl h), (fun h => absurd h (by decide)), (fun h => absurd h (by decide)), by decide +kernel⟩
set_option maxRecDepth 10000 in
theorem abok_292 : abOk abm_292 := ⟨ab_t2 (List.mem_of_getElem? (i := 231) rfl), (ab_t1 (List.mem_of_getElem? (i := 15) rfl)), rfl, by decide +kernel, by decide +kernel, by decide +kernel, (fun _ => (ab_t2 (List.mem_of_getElem? (i := 230) rfl))), (fun h => absurd rfl h), (fun h => absurd h (by decide)), (fun h => absurd h (by decide)), by decide +kernel⟩
set_option maxRecDepth 10000 in
theorem abok_293 : abOk abm_293 := ⟨ab_t2 (List.mem_of_getElem? (i := 234) rfl), (ab_t1 (List.mem_of_getElem? (i := 15) rfl)), rfl, by decide +kernel, by decide +kernel, by decide +kernel, (fun _ => (ab_t2 (List.mem_of_getElem? (i := 233) rfl))), (fun h => absurd rfl h), (fun h => absurd h (by decide)), (fun h => absurd h (by decide)), by decide +kernel⟩
set_option maxRecDepth 10000 in
theorem abok_294 : abOk abm_294 := ⟨ab_t4 (List.mem_of_getElem? (i := 144) rfl), (ab_t1 (List.mem_of_getElem? (i := 17) rfl)), rfl, by decide +kernel, by decide +kernel, by decide +kernel, (fun _ => (ab_t4 (List.mem_of_getElem? (i := 143) rfl))), (fun h => absurd rfl h), (fun h => absurd h (by decide)), (fun h => absurd h (by decide)), by decide +kernel⟩
set_option maxRecDepth 10000 in
theorem abok_295 : abOk abm_295 := ⟨ab_t3 (List.mem_of_getElem? (i := 134) rfl), (ab_t1 (List.mem_of_getElem? (i := 17) rfl)), rfl, by decide +kernel, by decide +kernel, by decide +kernel, (fun _ => (ab_t3 (List.mem_of_getElem? (i := 133) rfl))), (fun h => absurd rfl h), (fun h => absurd h (by decide)), (fun h => absurd h (by decide)), by decide +kernel⟩
set_option maxRecDepth 10000 in
theorem abok_296 : abOk abm_296 := ⟨ab_t2 (List.mem_of_getElem? (i := 228) rfl), (ab_t1 (List.mem_of_getElem? (i := 14) rfl)), rfl, by decide +kernel, by decide +kernel, by decide +kernel, (fun _ => (ab_t2 (List.mem_of_getElem? (i := 227) rfl))), (fun h => absurd rfl h), (fun h => absurd h (by decide)), (fun h => absurd h (by decide)), by decide +kernel⟩
theorem ab_lt_of {i k : Nat} (h : Nat.blt i k = false) : k ≤ i := by
  have h2 := fun z : i < k => (Nat.blt_eq.mpr z)
  rcases Nat.lt_or_ge i k with q | q
  · rw [h2 q] at h; cases h
  · exact q
theorem abM_ok {i : Nat} (h : i < 297) : abOk (abM i) := (ab_cond (P := abOk) (fun _ => (ab_cond (P := abOk) (fun _ => (ab_cond (P := abOk) (fun _ => (ab_cond (P := abOk) (fun _ => (ab_cond (P := abOk) (fun _ => (ab_cond (P := abOk) (fun _ => (ab_cond (P := abOk) (fun _ => (ab_cond (P := abOk) (fun _ => abok_0) (fun h_1 => abok_1))) (fun h_2 => (ab_cond (P := abOk) (fun _ => abok_2) (fun h_3 => abok_3))))) (fun h_4 => (ab_cond (P := abOk) (fun _ => (ab_cond (P := abOk) (fun _ => abok_4) (fun h_5 => abok_5))) (fun h_6 => (ab_cond (P := abOk) (fun _ => abok_6) (fun h_7 => (ab_cond (P := abOk) (fun _ => abok_7) (fun h_8 => abok_8))))))))) (fun h_9 => (ab_cond (P := abOk) (fun _ => (ab_cond (P := abOk) (fun _ => (ab_cond (P := abOk) (fun _ => abok_9) (fun h_10 => abok_10))) (fun h_11 => (ab_cond (P := abOk) (fun _ => abok_11) (fun h_12 => abok_12))))) (fun h_13 => (ab_cond (P := abOk) (fun _ => (ab_cond (P := abOk) (fun _ => abok_13) (fun h_14 => abok_14))) (fun h_15 => (ab_cond (P := abOk) (fun _ => abok_15) (fun h_16 => (ab_cond (P := abOk) (fun _ => abok_16) (fun h_17 => abok_17))))))))))) (fun h_18 => (ab_cond (P := abOk) (fun _ => (ab_cond (P := abOk) (fun _ => (ab_cond (P := abOk) (fun _ => (ab_cond (P := abOk) (fun _ => abok_18) (fun h_19 => abok_19))) (fun h_20 => (ab_cond (P := abOk) (fun _ => abok_20) (fun h_21 => abok_21))))) (fun h_22 => (ab_cond (P := abOk) (fun _ => (ab_cond (P := abOk) (fun _ => abok_22) (fun h_23 => abok_23))) (fun h_24 => (ab_cond (P := abOk) (fun _ => abok_24) (fun h_25 => (ab_cond (P := abOk) (fun _ => abok_25) (fun h_26 => abok_26))))))))) (fun h_27 => (ab_cond (P := abOk) (fun _ => (ab_cond (P := abOk) (fun _ => (ab_cond (P := abOk) (fun _ => abok_27) (fun h_28 => abok_28))) (fun h_29 => (ab_cond (P := abOk) (fun _ => abok_29) (fun h_30 => (ab_cond (P := abOk) (fun _ => abok_30) (fun h_31 => abok_31))))))) (fun h_32 => (ab_cond (P := abOk) (fun _ => (ab_cond (P := abOk) (fun _ => abok_32) (fun h_33 => abok_33))) (fun h_34 => (ab_cond (P := abOk) (fun _ => abok_34) (fun h_35 => (ab_cond (P := abOk) (fun _ => abok_35) (fun h_36 => abok_36))))))))))))) (fun h_37 => (ab_cond (P := abOk) (fun _ => (ab_cond (P := abOk) (fun _ => (ab_cond (P := abOk) (fun _ => (ab_cond (P := abOk) (fun _ => (ab_cond (P := abOk) (fun _ => abok_37) (fun h_38 => abok_38))) (fun h_39 => (ab_cond (P := abOk) (fun _ => abok_39) (fun h_40 => abok_40))))) (fun h_41 => (ab_cond (P := abOk) (fun _ => (ab_cond (P := abOk) (fun _ => abok_41) (fun h_42 => abok_42))) (fun h_43 => (ab_cond (P := abOk) (fun _ => abok_43) (fun h_44 => (ab_cond (P := abOk) (fun _ => abok_44) (fun h_45 => abok_45))))))))) (fun h_46 => (ab_cond (P := abOk) (fun _ => (ab_cond (P := abOk) (fun _ => (ab_cond (P := abOk) (fun _ => abok_46) (fun h_47 => abok_47))) (fun h_48 => (ab_cond (P := abOk) (fun _ => abok_48) (fun h_49 => abok_49))))) (fun h_50 => (ab_cond (P := abOk) (fun _ => (ab_cond (P := abOk) (fun _ => abok_50) (fun h_51 => abok_51))) (fun h_52 => (ab_cond (P := abOk) (fun _ => abok_52) (fun h_53 => (ab_cond (P := abOk) (fun _ => abok_53) (fun h_54 => abok_54))))))))))) (fun h_55 => (ab_cond (P := abOk) (fun _ => (ab_cond (P := abOk) (fun _ => (ab_cond (P := abOk) (fun _ => (ab_cond (P := abOk) (fun _ => abok_55) (fun h_56 => abok_56))) (fun h_57 => (ab_cond (P := abOk) (fun _ => abok_57) (fun h_58 => abok_58))))) (fun h_59 => (ab_cond (P := abOk) (fun _ => (ab_cond (P := abOk) (fun _ => abok_59) (fun h_60 => abok_60))) (fun h_61 => (ab_cond (P := abOk) (fun _ => abok_61) (fun h_62 => (ab_cond (P := abOk) (fun _ => abok_62) (fun h_63 => abok_63))))))))) (fun h_64 => (ab_cond (P := abOk) (fun _ => (ab_cond (P := abOk) (fun _ => (ab_cond (P := abOk) (fun _ => abok_64) (fun h_65 => abok_65))) (fun h_66 => (ab_cond (P := abOk) (fun _ => abok_66) (fun h_67 => (ab_cond (P := abOk) (fun _ => abok_67) (fun h_68 => abok_68))))))) (fun h_69 => (ab_cond (P := abOk) (fun _ => (ab_cond (P := abOk) (fun _ => abok_69) (fun h_70 => abok_70))) (fun h_71 => (ab_cond (P := abOk) (fun _ => abok_71) (fun h_72 => (ab_cond (P := abOk) (fun _ => abok_72) (fun h_73 => abok_73))))))))))))))) (fun h_74 => (ab_cond (P := abOk) (fun _ => (ab_cond (P := abOk) (fun _ => (ab_cond (P := abOk) (fun _ => (ab_cond (P := abOk) (fun _ => (ab_cond (P := abOk) (fun _ => (ab_cond (P := abOk) (fun _ => abok_74) (fun h_75 => abok_75))) (fun h_76 => (ab_cond (P := abOk) (fun _ => abok_76) (fun h_77 => abok_77))))) (fun h_78 => (ab_cond (P := abOk) (fun _ => (ab_cond (P := abOk) (fun _ => abok_78) (fun h_79 => abok_79))) (fun h_80 => (ab_cond (P := abOk) (fun _ => abok_80) (fun h_81 => (ab_cond (P := abOk) (fun _ => abok_81) (fun h_82 => abok_82))))))))) (fun h_83 => (ab_cond (P := abOk) (fun _ => (ab_cond (P := abOk) (fun _ => (ab_cond (P := abOk) (fun _ => abok_83) (fun h_84 => abok_84))) (fun h_85 => (ab_cond (P := abOk) (fun _ => abok_85) (fun h_86 => abok_86))))) (fun h_87 => (ab_cond (P := abOk) (fun _ => (ab_cond (P := abOk) (fun _ => abok_87) (fun h_88 => abok_88))) (fun h_89 => (ab_cond (P := abOk) (fun _ => abok_89) (fun h_90 => (ab_cond (P := abOk) (fun _ => abok_90) (fun h_91 => abok_91))))))))))) (fun h_92 => (ab_cond (P := abOk) (fun _ => (ab_cond (P := abOk) (fun _ => (ab_cond (P := abOk) (fun _ => (ab_cond (P := abOk) (fun _ => abok_92) (fun h_93 => abok_93))) (fun h_94 => (ab_cond (P := abOk) (fun _ => abok_94) (fun h_95 => abok_95))))) (fun h_96 => (ab_cond (P := abOk) (fun _ => (ab_cond (P := abOk) (fun _ => abok_96) (fun h_97 => abok_97))) (fun h_98 => (ab_cond (P := abOk) (fun _ => abok_98) (fun h_99 => (ab_cond (P := abOk) (fun _ => abok_99) (fun h_100 => abok_100))))))))) (fun h_101 => (ab_cond (P := abOk) (fun _ => (ab_cond (P := abOk) (fun _ => (ab_cond (P := abOk) (fun _ => abok_101) (fun h_102 => abok_102))) (fun h_103 => (ab_cond (P := abOk) (fun _ => abok_103) (fun h_104 => (ab_cond (P := abOk) (fun _ => abok_104) (fun h_105 => abok_105))))))) (fun h_106 => (ab_cond (P := abOk) (fun _ => (ab_cond (P := abOk) (fun _ => abok_106) (fun h_107 => abok_107))) (fun h_108 => (ab_cond (P := abOk) (fun _ => abok_108) (fun h_109 => (ab_cond (P := abOk) (fun _ => abok_109) (fun h_110 => abok_110))))))))))))) (fun h_111 => (ab_cond (P := abOk) (fun _ => (ab_cond (P := abOk) (fun _ => (ab_cond (P := abOk) (fun _ => (ab_cond (P := abOk) (fun _ => (ab_cond (P := abOk) (fun _ => abok_111) (fun h_112 => abok_112))) (fun h_113 => (ab_cond (P := abOk) (fun _ => abok_113) (fun h_114 => abok_114))))) (fun h_115 => (ab_cond (P := abOk) (fun _ => (ab_cond (P := abOk) (fun _ => abok_115) (fun h_116 => abok_116))) (fun h_117 => (ab_cond (P := abOk) (fun _ => abok_117) (fun h_118 => (ab_cond (P := abOk) (fun _ => abok_118) (fun h_119 => abok_119))))))))) (fun h_120 => (ab_cond (P := abOk) (fun _ => (ab_cond (P := abOk) (fun _ => (ab_cond (P := abOk) (fun _ => abok_120) (fun h_121 => abok_121))) (fun h_122 => (ab_cond (P := abOk) (fun _ => abok_122) (fun h_123 => (ab_cond (P := abOk) (fun _ => abok_123) (fun h_124 => abok_124))))))) (fun h_125 => (ab_cond (P := abOk) (fun _ => (ab_cond (P := abOk) (fun _ => abok_125) (fun h_126 => abok_126))) (fun h_127 => (ab_cond (P := abOk) (fun _ => abok_127) (fun h_128 => (ab_cond (P := abOk) (fun _ => abok_128) (fun h_129 => abok_129))))))))))) (fun h_130 => (ab_cond (P := abOk) (fun _ => (ab_cond (P := abOk) (fun _ => (ab_cond (P := abOk) (fun _ => (ab_cond (P := abOk) (fun _ => abok_130) (fun h_131 => abok_131))) (fun h_132 => (ab_cond (P := abOk) (fun _ => abok_132) (fun h_133 => abok_133))))) (fun h_134 => (ab_cond (P := abOk) (fun _ => (ab_cond (P := abOk) (fun _ => abok_134) (fun h_135 => abok_135))) (fun h_136 => (ab_cond (P := abOk) (fun _ => abok_136) (fun h_137 => (ab_cond (P := abOk) (fun _ => abok_137) (fun h_138 => abok_138))))))))) (fun h_139 => (ab_cond (P := abOk) (fun _ => (ab_cond (P := abOk) (fun _ => (ab_cond (P := abOk) (fun _ => abok_139) (fun h_140 => abok_140))) (fun h_141 => (ab_cond (P := abOk) (fun _ => abok_141) (fun h_142 => (ab_cond (P := abOk) (fun _ => abok_142) (fun h_143 => abok_143))))))) (fun h_144 => (ab_cond (P := abOk) (fun _ => (ab_cond (P := abOk) (fun _ => abok_144) (fun h_145 => abok_145))) (fun h_146 => (ab_cond (P := abOk) (fun _ => abok_146) (fun h_147 => (ab_cond (P := abOk) (fun _ => abok_147) (fun h_148 => abok_148))))))))))))))))) (fun h_149 => (ab_cond (P := abOk) (fun _ => (ab_cond (P := abOk) (fun _ => (ab_cond (P := abOk) (fun _ => (ab_cond (P := abOk) (fun _ => (ab_cond (P := abOk) (fun _ => (ab_cond (P := abOk) (fun _ => (ab_cond (P := abOk) (fun _ => abok_149) (fun h_150 => abok_150))) (fun h_151 => (ab_cond (P := abOk) (fun _ => abok_151) (fun h_152 => abok_152))))) (fun h_153 => (ab_cond (P := abOk) (fun _ => (ab_cond (P := abOk) (fun _ => abok_153) (fun h_154 => abok_154))) (fun h_155 => (ab_cond (P := abOk) (fun _ => abok_155) (fun h_156 => (ab_cond (P := abOk) (fun _ => abok_156) (fun h_157 => abok_157))))))))) (fun h_158 => (ab_cond (P := abOk) (fun _ => (ab_cond (P := abOk) (fun _ => (ab_cond (P := abOk) (fun _ => abok_158) (fun h_159 => abok_159))) (fun h_160 => (ab_cond (P := abOk) (fun _ => abok_160) (fun h_161 => abok_161))))) (fun h_162 => (ab_cond (P := abOk) (fun _ => (ab_cond (P := abOk) (fun _ => abok_162) (fun h_163 => abok_163))) (fun h_164 => (ab_cond (P := abOk) (fun _ => abok_164) (fun h_165 => (ab_cond (P := abOk) (fun _ => abok_165) (fun h_166 => abok_166))))))))))) (fun h_167 => (ab_cond (P := abOk) (fun _ => (ab_cond (P := abOk) (fun _ => (ab_cond (P := abOk) (fun _ => (ab_cond (P := abOk) (fun _ => abok_167) (fun h_168 => abok_168))) (fun h_169 => (ab_cond (P := abOk) (fun _ => abok_169) (fun h_170 => abok_170))))) (fun h_171 => (ab_cond (P := abOk) (fun _ => (ab_cond (P := abOk) (fun _ => abok_171) (fun h_172 => abok_172))) (fun h_173 => (ab_cond (P := abOk) (fun _ => abok_173) (fun h_174 => (ab_cond (P := abOk) (fun _ => abok_174) (fun h_175 => abok_175))))))))) (fun h_176 => (ab_cond (P := abOk) (fun _ => (ab_cond (P := abOk) (fun _ => (ab_cond (P := abOk) (fun _ => abok_176) (fun h_177 => abok_177))) (fun h_178 => (ab_cond (P := abOk) (fun _ => abok_178) (fun h_179 => (ab_cond (P := abOk) (fun _ => abok_179) (fun h_180 => abok_180))))))) (fun h_181 => (ab_cond (P := abOk) (fun _ => (ab_cond (P := abOk) (fun _ => abok_181) (fun h_182 => abok_182))) (fun h_183 => (ab_cond (P := abOk) (fun _ => abok_183) (fun h_184 => (ab_cond (P := abOk) (fun _ => abok_184) (fun h_185 => abok_185))))))))))))) (fun h_186 => (ab_cond (P := abOk) (fun _ => (ab_cond (P := abOk) (fun _ => (ab_cond (P := abOk) (fun _ => (ab_cond (P := abOk) (fun _ => (ab_cond (P := abOk) (fun _ => abok_186) (fun h_187 => abok_187))) (fun h_188 => (ab_cond (P := abOk) (fun _ => abok_188) (fun h_189 => abok_189))))) (fun h_190 => (ab_cond (P := abOk) (fun _ => (ab_cond (P := abOk) (fun _ => abok_190) (fun h_191 => abok_191))) (fun h_192 => (ab_cond (P := abOk) (fun _ => abok_192) (fun h_193 => (ab_cond (P := abOk) (fun _ => abok_193) (fun h_194 => abok_194))))))))) (fun h_195 => (ab_cond (P := abOk) (fun _ => (ab_cond (P := abOk) (fun _ => (ab_cond (P := abOk) (fun _ => abok_195) (fun h_196 => abok_196))) (fun h_197 => (ab_cond (P := abOk) (fun _ => abok_197) (fun h_198 => abok_198))))) (fun h_199 => (ab_cond (P := abOk) (fun _ => (ab_cond (P := abOk) (fun _ => abok_199) (fun h_200 => abok_200))) (fun h_201 => (ab_cond (P := abOk) (fun _ => abok_201) (fun h_202 => (ab_cond (P := abOk) (fun _ => abok_202) (fun h_203 => abok_203))))))))))) (fun h_204 => (ab_cond (P := abOk) (fun _ => (ab_cond (P := abOk) (fun _ => (ab_cond (P := abOk) (fun _ => (ab_cond (P := abOk) (fun _ => abok_204) (fun h_205 => abok_205))) (fun h_206 => (ab_cond (P := abOk) (fun _ => abok_206) (fun h_207 => abok_207))))) (fun h_208 => (ab_cond (P := abOk) (fun _ => (ab_cond (P := abOk) (fun _ => abok_208) (fun h_209 => abok_209))) (fun h_210 => (ab_cond (P := abOk) (fun _ => abok_210) (fun h_211 => (ab_cond (P := abOk) (fun _ => abok_211) (fun h_212 => abok_212))))))))) (fun h_213 => (ab_cond (P := abOk) (fun _ => (ab_cond (P := abOk) (fun _ => (ab_cond (P := abOk) (fun _ => abok_213) (fun h_214 => abok_214))) (fun h_215 => (ab_cond (P := abOk) (fun _ => abok_215) (fun h_216 => (ab_cond (P := abOk) (fun _ => abok_216) (fun h_217 => abok_217))))))) (fun h_218 => (ab_cond (P := abOk) (fun _ => (ab_cond (P := abOk) (fun _ => abok_218) (fun h_219 => abok_219))) (fun h_220 => (ab_cond (P := abOk) (fun _ => abok_220) (fun h_221 => (ab_cond (P := abOk) (fun _ => abok_221) (fun h_222 => abok_222))))))))))))))) (fun h_223 => (ab_cond (P := abOk) (fun _ => (ab_cond (P := abOk) (fun _ => (ab_cond (P := abOk) (fun _ => (ab_cond (P := abOk) (fun _ => (ab_cond (P := abOk) (fun _ => (ab_cond (P := abOk) (fun _ => abok_223) (fun h_224 => abok_224))) (fun h_225 => (ab_cond (P := abOk) (fun _ => abok_225) (fun h_226 => abok_226))))) (fun h_227 => (ab_cond (P := abOk) (fun _ => (ab_cond (P := abOk) (fun _ => abok_227) (fun h_228 => abok_228))) (fun h_229 => (ab_cond (P := abOk) (fun _ => abok_229) (fun h_230 => (ab_cond (P := abOk) (fun _ => abok_230) (fun h_231 => abok_231))))))))) (fun h_232 => (ab_cond (P := abOk) (fun _ => (ab_cond (P := abOk) (fun _ => (ab_cond (P := abOk) (fun _ => abok_232) (fun h_233 => abok_233))) (fun h_234 => (ab_cond (P := abOk) (fun _ => abok_234) (fun h_235 => abok_235))))) (fun h_236 => (ab_cond (P := abOk) (fun _ => (ab_cond (P := abOk) (fun _ => abok_236) (fun h_237 => abok_237))) (fun h_238 => (ab_cond (P := abOk) (fun _ => abok_238) (fun h_239 => (ab_cond (P := abOk) (fun _ => abok_239) (fun h_240 => abok_240))))))))))) (fun h_241 => (ab_cond (P := abOk) (fun _ => (ab_cond (P := abOk) (fun _ => (ab_cond (P := abOk) (fun _ => (ab_cond (P := abOk) (fun _ => abok_241) (fun h_242 => abok_242))) (fun h_243 => (ab_cond (P := abOk) (fun _ => abok_243) (fun h_244 => abok_244))))) (fun h_245 => (ab_cond (P := abOk) (fun _ => (ab_cond (P := abOk) (fun _ => abok_245) (fun h_246 => abok_246))) (fun h_247 => (ab_cond (P := abOk) (fun _ => abok_247) (fun h_248 => (ab_cond (P := abOk) (fun _ => abok_248) (fun h_249 => abok_249))))))))) (fun h_250 => (ab_cond (P := abOk) (fun _ => (ab_cond (P := abOk) (fun _ => (ab_cond (P := abOk) (fun _ => abok_250) (fun h_251 => abok_251))) (fun h_252 => (ab_cond (P := abOk) (fun _ => abok_252) (fun h_253 => (ab_cond (P := abOk) (fun _ => abok_253) (fun h_254 => abok_254))))))) (fun h_255 => (ab_cond (P := abOk) (fun _ => (ab_cond (P := abOk) (fun _ => abok_255) (fun h_256 => abok_256))) (fun h_257 => (ab_cond (P := abOk) (fun _ => abok_257) (fun h_258 => (ab_cond (P := abOk) (fun _ => abok_258) (fun h_259 => abok_259))))))))))))) (fun h_260 => (ab_cond (P := abOk) (fun _ => (ab_cond (P := abOk) (fun _ => (ab_cond (P := abOk) (fun _ => (ab_cond (P := abOk) (fun _ => (ab_cond (P := abOk) (fun _ => abok_260) (fun h_261 => abok_261))) (fun h_262 => (ab_cond (P := abOk) (fun _ => abok_262) (fun h_263 => abok_263))))) (fun h_264 => (ab_cond (P := abOk) (fun _ => (ab_cond (P := abOk) (fun _ => abok_264) (fun h_265 => abok_265))) (fun h_266 => (ab_cond (P := abOk) (fun _ => abok_266) (fun h_267 => (ab_cond (P := abOk) (fun _ => abok_267) (fun h_268 => abok_268))))))))) (fun h_269 => (ab_cond (P := abOk) (fun _ => (ab_cond (P := abOk) (fun _ => (ab_cond (P := abOk) (fun _ => abok_269) (fun h_270 => abok_270))) (fun h_271 => (ab_cond (P := abOk) (fun _ => abok_271) (fun h_272 => (ab_cond (P := abOk) (fun _ => abok_272) (fun h_273 => abok_273))))))) (fun h_274 => (ab_cond (P := abOk) (fun _ => (ab_cond (P := abOk) (fun _ => abok_274) (fun h_275 => abok_275))) (fun h_276 => (ab_cond (P := abOk) (fun _ => abok_276) (fun h_277 => (ab_cond (P := abOk) (fun _ => abok_277) (fun h_278 => abok_278))))))))))) (fun h_279 => (ab_cond (P := abOk) (fun _ => (ab_cond (P := abOk) (fun _ => (ab_cond (P := abOk) (fun _ => (ab_cond (P := abOk) (fun _ => abok_279) (fun h_280 => abok_280))) (fun h_281 => (ab_cond (P := abOk) (fun _ => abok_281) (fun h_282 => abok_282))))) (fun h_283 => (ab_cond (P := abOk) (fun _ => (ab_cond (P := abOk) (fun _ => abok_283) (fun h_284 => abok_284))) (fun h_285 => (ab_cond (P := abOk) (fun _ => abok_285) (fun h_286 => (ab_cond (P := abOk) (fun _ => abok_286) (fun h_287 => abok_287))))))))) (fun h_288 => (ab_cond (P := abOk) (fun _ => (ab_cond (P := abOk) (fun _ => (ab_cond (P := abOk) (fun _ => abok_288) (fun h_289 => abok_289))) (fun h_290 => (ab_cond (P := abOk) (fun _ => abok_290) (fun h_291 => (ab_cond (P := abOk) (fun _ => abok_291) (fun h_292 => abok_292))))))) (fun h_293 => (ab_cond (P := abOk) (fun _ => (ab_cond (P := abOk) (fun _ => abok_293) (fun h_294 => abok_294))) (fun h_295 => (ab_cond (P := abOk) (fun _ => abok_295) (fun h_296 => (ab_cond (P := abOk) (fun _ => abok_296) (fun h_297 => absurd (ab_lt_of h_297) (Nat.not_le.mpr h)))))))))))))))))))
