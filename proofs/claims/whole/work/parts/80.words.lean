/-! names, fields, words by their places (printed by my program) -/
def clsN (c : Nat) : String := (["LowForgeModel", "LowForge", "LowForge$Checker", "LowForge$Circuit", "LowForge$Links", "LowForge$Lowering", "LowForge$Nodes", "LowForge$Parser", "LowForge$Signals", "LowForge$Sizer", "LowForge$Steps", "LowForge$Tokens", "LowForge$Types", "java/util/Arrays", "LowForgeLaw"] : List String).getD c ""
def TZ0 : u_T := fun k => match k with
  | 0 => ("LowForgeModel", "text", "[I", true)
  | 1 => ("LowForgeModel", "length", "I", false)
  | 2 => ("LowForgeModel", "at", "I", false)
  | 3 => ("LowForgeModel", "where", "I", false)
  | 4 => ("LowForgeModel", "thrown", "I", false)
  | 5 => ("LowForgeModel", "bad", "Z", false)
  | 6 => ("LowForgeModel", "typeKind", "[I", true)
  | 7 => ("LowForgeModel", "typeNumber", "[I", true)
  | 8 => ("LowForgeModel", "typeOf", "[I", true)
  | 9 => ("LowForgeModel", "typeSize", "[I", true)
  | 10 => ("LowForgeModel", "fieldName", "[I", true)
  | 11 => ("LowForgeModel", "fieldType", "[I", true)
  | 12 => ("LowForgeModel", "fieldNext", "[I", true)
  | 13 => ("LowForgeModel", "fieldBack", "[I", true)
  | 14 => ("LowForgeModel", "openType", "[I", true)
  | 15 => ("LowForgeModel", "openField", "[I", true)
  | 16 => ("LowForgeModel", "types", "I", false)
  | 17 => ("LowForgeModel", "fields", "I", false)
  | 18 => ("LowForgeModel", "opened", "I", false)
  | 19 => ("LowForgeModel", "kind", "[I", true)
  | 20 => ("LowForgeModel", "number", "[I", true)
  | 21 => ("LowForgeModel", "high", "[I", true)
  | 22 => ("LowForgeModel", "partA", "[I", true)
  | 23 => ("LowForgeModel", "partB", "[I", true)
  | 24 => ("LowForgeModel", "partC", "[I", true)
  | 25 => ("LowForgeModel", "endOf", "[I", true)
  | 26 => ("LowForgeModel", "wide", "[I", true)
  | 27 => ("LowForgeModel", "pathOf", "[I", true)
  | 28 => ("LowForgeModel", "pathMany", "[I", true)
  | 29 => ("LowForgeModel", "worth", "[I", true)
  | 30 => ("LowForgeModel", "stack", "[I", true)
  | 31 => ("LowForgeModel", "got", "[I", true)
  | 32 => ("LowForgeModel", "nodes", "I", false)
  | 33 => ("LowForgeModel", "op", "[I", true)
  | 34 => ("LowForgeModel", "place", "[I", true)
  | 35 => ("LowForgeModel", "own", "[I", true)
  | 36 => ("LowForgeModel", "left", "[I", true)
  | 37 => ("LowForgeModel", "right", "[I", true)
  | 38 => ("LowForgeModel", "stepType", "[I", true)
  | 39 => ("LowForgeModel", "block", "[I", true)
  | 40 => ("LowForgeModel", "steps", "I", false)
  | 41 => ("LowForgeModel", "declared", "[I", true)
  | 42 => ("LowForgeModel", "declaredType", "[I", true)
  | 43 => ("LowForgeModel", "base", "[I", true)
  | 44 => ("LowForgeModel", "sort", "[I", true)
  | 45 => ("LowForgeModel", "name", "[I", true)
  | 46 => ("LowForgeModel", "flip", "[I", true)
  | 47 => ("LowForgeModel", "width", "[I", true)
  | 48 => ("LowForgeModel", "node", "[I", true)
  | 49 => ("LowForgeModel", "depend", "[I", true)
  | 50 => ("LowForgeModel", "signals", "I", false)
  | 51 => ("LowForgeModel", "found", "I", false)
  | 52 => ("LowForgeModel", "foundType", "I", false)
  | 53 => ("LowForgeModel", "foundFlip", "I", false)
  | 54 => ("LowForgeModel", "lowOp", "[I", true)
  | 55 => ("LowForgeModel", "sink", "[I", true)
  | 56 => ("LowForgeModel", "source", "[I", true)
  | 57 => ("LowForgeModel", "low", "I", false)
  | 58 => ("LowForgeModel", "connections", "I", false)
  | 59 => ("LowForgeModel", "value", "[I", true)
  | 60 => ("LowForgeModel", "state", "[I", true)
  | 61 => ("LowForgeModel", "before", "[I", true)
  | 62 => ("LowForgeModel", "changes", "[I", true)
  | 63 => ("LowForgeModel", "nextState", "[I", true)
  | 64 => ("LowForgeModel", "known", "[Z", true)
  | 65 => ("LowForgeModel", "active", "[Z", true)
  | 66 => ("LowForgeModel", "saved", "[Z", true)
  | 67 => ("LowForgeModel", "touched", "[Z", true)
  | 68 => ("LowForgeModel", "kept", "[I", true)
  | 69 => ("LowForgeModel", "keptThen", "[I", true)
  | 70 => ("LowForgeModel", "keptWhen", "[I", true)
  | 71 => ("LowForgeModel", "liveSignals", "I", false)
  | 72 => ("LowForgeModel", "liveLow", "I", false)
  | 73 => ("LowForgeModel", "liveConnections", "I", false)
  | 74 => ("LowForgeModel", "clocks", "I", false)
  | _ => ("LowForgeModel", "compiled", "Z", false)
def tyZ0 : Nat → FieldType := fun k => match k with
  | 0 => .array (.int)
  | 1 => .int
  | 2 => .int
  | 3 => .int
  | 4 => .int
  | 5 => .boolean
  | 6 => .array (.int)
  | 7 => .array (.int)
  | 8 => .array (.int)
  | 9 => .array (.int)
  | 10 => .array (.int)
  | 11 => .array (.int)
  | 12 => .array (.int)
  | 13 => .array (.int)
  | 14 => .array (.int)
  | 15 => .array (.int)
  | 16 => .int
  | 17 => .int
  | 18 => .int
  | 19 => .array (.int)
  | 20 => .array (.int)
  | 21 => .array (.int)
  | 22 => .array (.int)
  | 23 => .array (.int)
  | 24 => .array (.int)
  | 25 => .array (.int)
  | 26 => .array (.int)
  | 27 => .array (.int)
  | 28 => .array (.int)
  | 29 => .array (.int)
  | 30 => .array (.int)
  | 31 => .array (.int)
  | 32 => .int
  | 33 => .array (.int)
  | 34 => .array (.int)
  | 35 => .array (.int)
  | 36 => .array (.int)
  | 37 => .array (.int)
  | 38 => .array (.int)
  | 39 => .array (.int)
  | 40 => .int
  | 41 => .array (.int)
  | 42 => .array (.int)
  | 43 => .array (.int)
  | 44 => .array (.int)
  | 45 => .array (.int)
  | 46 => .array (.int)
  | 47 => .array (.int)
  | 48 => .array (.int)
  | 49 => .array (.int)
  | 50 => .int
  | 51 => .int
  | 52 => .int
  | 53 => .int
  | 54 => .array (.int)
  | 55 => .array (.int)
  | 56 => .array (.int)
  | 57 => .int
  | 58 => .int
  | 59 => .array (.int)
  | 60 => .array (.int)
  | 61 => .array (.int)
  | 62 => .array (.int)
  | 63 => .array (.int)
  | 64 => .array (.boolean)
  | 65 => .array (.boolean)
  | 66 => .array (.boolean)
  | 67 => .array (.boolean)
  | 68 => .array (.int)
  | 69 => .array (.int)
  | 70 => .array (.int)
  | 71 => .int
  | 72 => .int
  | 73 => .int
  | 74 => .int
  | _ => .boolean
def TZ1 : u_T := fun k => match k with
  | 0 => ("LowForge", "letters", "[C", true)
  | 1 => ("LowForge", "length", "I", false)
  | 2 => ("LowForge", "place", "I", false)
  | 3 => ("LowForge", "compiled", "Z", false)
  | 4 => ("LowForge", "circuit", "LLowForge$Circuit;", false)
  | 5 => ("LowForge", "spare", "LLowForge$Circuit;", false)
  | 6 => ("LowForge", "tokens", "LLowForge$Tokens;", true)
  | 7 => ("LowForge", "parser", "LLowForge$Parser;", true)
  | 8 => ("LowForge", "checker", "LLowForge$Checker;", true)
  | 9 => ("LowForge", "sizer", "LLowForge$Sizer;", true)
  | _ => ("LowForge", "lowering", "LLowForge$Lowering;", true)
def tyZ1 : Nat → FieldType := fun k => match k with
  | 0 => .array (.char)
  | 1 => .int
  | 2 => .int
  | 3 => .boolean
  | 4 => .object "LowForge$Circuit"
  | 5 => .object "LowForge$Circuit"
  | 6 => .object "LowForge$Tokens"
  | 7 => .object "LowForge$Parser"
  | 8 => .object "LowForge$Checker"
  | 9 => .object "LowForge$Sizer"
  | _ => .object "LowForge$Lowering"
def TZ2 : u_T := fun k => match k with
  | 0 => ("LowForge$Checker", "types", "LLowForge$Types;", true)
  | 1 => ("LowForge$Checker", "steps", "LLowForge$Steps;", true)
  | 2 => ("LowForge$Checker", "links", "LLowForge$Links;", true)
  | 3 => ("LowForge$Checker", "firstSignal", "[I", true)
  | 4 => ("LowForge$Checker", "typeOf", "[I", true)
  | 5 => ("LowForge$Checker", "signals", "LLowForge$Signals;", false)
  | _ => ("LowForge$Checker", "nodes", "LLowForge$Nodes;", false)
def tyZ2 : Nat → FieldType := fun k => match k with
  | 0 => .object "LowForge$Types"
  | 1 => .object "LowForge$Steps"
  | 2 => .object "LowForge$Links"
  | 3 => .array (.int)
  | 4 => .array (.int)
  | 5 => .object "LowForge$Signals"
  | _ => .object "LowForge$Nodes"
def TZ3 : u_T := fun k => match k with
  | 0 => ("LowForge$Circuit", "signals", "LLowForge$Signals;", true)
  | 1 => ("LowForge$Circuit", "nodes", "LLowForge$Nodes;", true)
  | 2 => ("LowForge$Circuit", "connections", "I", false)
  | 3 => ("LowForge$Circuit", "asked", "[I", true)
  | 4 => ("LowForge$Circuit", "ifNotZero", "[I", true)
  | 5 => ("LowForge$Circuit", "ifZero", "[I", true)
  | 6 => ("LowForge$Circuit", "choices", "I", false)
  | 7 => ("LowForge$Circuit", "form", "[I", true)
  | 8 => ("LowForge$Circuit", "needs", "[I", true)
  | 9 => ("LowForge$Circuit", "order", "[I", true)
  | 10 => ("LowForge$Circuit", "ordered", "I", false)
  | 11 => ("LowForge$Circuit", "now", "[I", true)
  | 12 => ("LowForge$Circuit", "changes", "[I", true)
  | 13 => ("LowForge$Circuit", "before", "[I", true)
  | 14 => ("LowForge$Circuit", "coming", "[I", true)
  | _ => ("LowForge$Circuit", "clocks", "I", false)
def tyZ3 : Nat → FieldType := fun k => match k with
  | 0 => .object "LowForge$Signals"
  | 1 => .object "LowForge$Nodes"
  | 2 => .int
  | 3 => .array (.int)
  | 4 => .array (.int)
  | 5 => .array (.int)
  | 6 => .int
  | 7 => .array (.int)
  | 8 => .array (.int)
  | 9 => .array (.int)
  | 10 => .int
  | 11 => .array (.int)
  | 12 => .array (.int)
  | 13 => .array (.int)
  | 14 => .array (.int)
  | _ => .int
def TZ4 : u_T := fun k => match k with
  | 0 => ("LowForge$Links", "types", "LLowForge$Types;", true)
  | _ => ("LowForge$Links", "steps", "LLowForge$Steps;", true)
def tyZ4 : Nat → FieldType := fun k => match k with
  | 0 => .object "LowForge$Types"
  | _ => .object "LowForge$Steps"
def TZ5 : u_T := fun k => match k with
  | 0 => ("LowForge$Lowering", "steps", "LLowForge$Steps;", true)
  | 1 => ("LowForge$Lowering", "links", "LLowForge$Links;", true)
  | 2 => ("LowForge$Lowering", "needs", "[I", true)
  | 3 => ("LowForge$Lowering", "state", "[I", true)
  | 4 => ("LowForge$Lowering", "before", "[[I", true)
  | 5 => ("LowForge$Lowering", "behindFirst", "[[I", true)
  | 6 => ("LowForge$Lowering", "asked", "[I", true)
  | 7 => ("LowForge$Lowering", "touchedBefore", "[I", true)
  | 8 => ("LowForge$Lowering", "reach", "[I", true)
  | 9 => ("LowForge$Lowering", "depth", "I", false)
  | _ => ("LowForge$Lowering", "touched", "I", false)
def tyZ5 : Nat → FieldType := fun k => match k with
  | 0 => .object "LowForge$Steps"
  | 1 => .object "LowForge$Links"
  | 2 => .array (.int)
  | 3 => .array (.int)
  | 4 => .array (.array (.int))
  | 5 => .array (.array (.int))
  | 6 => .array (.int)
  | 7 => .array (.int)
  | 8 => .array (.int)
  | 9 => .int
  | _ => .int
def TZ6 : u_T := fun k => match k with
  | 0 => ("LowForge$Nodes", "op", "[I", true)
  | 1 => ("LowForge$Nodes", "left", "[I", true)
  | 2 => ("LowForge$Nodes", "middle", "[I", true)
  | 3 => ("LowForge$Nodes", "right", "[I", true)
  | 4 => ("LowForge$Nodes", "first", "[I", true)
  | 5 => ("LowForge$Nodes", "width", "[I", true)
  | 6 => ("LowForge$Nodes", "held", "[I", true)
  | _ => ("LowForge$Nodes", "used", "I", false)
def tyZ6 : Nat → FieldType := fun k => match k with
  | 0 => .array (.int)
  | 1 => .array (.int)
  | 2 => .array (.int)
  | 3 => .array (.int)
  | 4 => .array (.int)
  | 5 => .array (.int)
  | 6 => .array (.int)
  | _ => .int
def TZ7 : u_T := fun k => match k with
  | 0 => ("LowForge$Parser", "tokens", "LLowForge$Tokens;", true)
  | 1 => ("LowForge$Parser", "types", "LLowForge$Types;", true)
  | 2 => ("LowForge$Parser", "steps", "LLowForge$Steps;", true)
  | 3 => ("LowForge$Parser", "nodes", "LLowForge$Nodes;", false)
  | 4 => ("LowForge$Parser", "next", "I", false)
  | 5 => ("LowForge$Parser", "faultAt", "I", false)
  | 6 => ("LowForge$Parser", "depth", "I", false)
  | _ => ("LowForge$Parser", "inSecond", "[Z", true)
def tyZ7 : Nat → FieldType := fun k => match k with
  | 0 => .object "LowForge$Tokens"
  | 1 => .object "LowForge$Types"
  | 2 => .object "LowForge$Steps"
  | 3 => .object "LowForge$Nodes"
  | 4 => .int
  | 5 => .int
  | 6 => .int
  | _ => .array (.boolean)
def TZ8 : u_T := fun k => match k with
  | 0 => ("LowForge$Signals", "kind", "[I", true)
  | 1 => ("LowForge$Signals", "name", "[I", true)
  | 2 => ("LowForge$Signals", "width", "[I", true)
  | 3 => ("LowForge$Signals", "flipped", "[Z", true)
  | 4 => ("LowForge$Signals", "sink", "[Z", true)
  | 5 => ("LowForge$Signals", "grows", "[Z", true)
  | _ => ("LowForge$Signals", "used", "I", false)
def tyZ8 : Nat → FieldType := fun k => match k with
  | 0 => .array (.int)
  | 1 => .array (.int)
  | 2 => .array (.int)
  | 3 => .array (.boolean)
  | 4 => .array (.boolean)
  | 5 => .array (.boolean)
  | _ => .int
def TZ9 : u_T := fun k => match k with
  | 0 => ("LowForge$Sizer", "steps", "LLowForge$Steps;", true)
  | _ => ("LowForge$Sizer", "links", "LLowForge$Links;", true)
def tyZ9 : Nat → FieldType := fun k => match k with
  | 0 => .object "LowForge$Steps"
  | _ => .object "LowForge$Links"
def TZ10 : u_T := fun k => match k with
  | 0 => ("LowForge$Steps", "kind", "[I", true)
  | 1 => ("LowForge$Steps", "at", "[I", true)
  | 2 => ("LowForge$Steps", "left", "[I", true)
  | 3 => ("LowForge$Steps", "right", "[I", true)
  | 4 => ("LowForge$Steps", "used", "I", false)
  | 5 => ("LowForge$Steps", "path", "[I", true)
  | _ => ("LowForge$Steps", "pathUsed", "I", false)
def tyZ10 : Nat → FieldType := fun k => match k with
  | 0 => .array (.int)
  | 1 => .array (.int)
  | 2 => .array (.int)
  | 3 => .array (.int)
  | 4 => .int
  | 5 => .array (.int)
  | _ => .int
def TZ11 : u_T := fun k => match k with
  | 0 => ("LowForge$Tokens", "kind", "[I", true)
  | 1 => ("LowForge$Tokens", "at", "[I", true)
  | 2 => ("LowForge$Tokens", "number", "[I", true)
  | _ => ("LowForge$Tokens", "used", "I", false)
def tyZ11 : Nat → FieldType := fun k => match k with
  | 0 => .array (.int)
  | 1 => .array (.int)
  | 2 => .array (.int)
  | _ => .int
def TZ12 : u_T := fun k => match k with
  | 0 => ("LowForge$Types", "form", "[I", true)
  | 1 => ("LowForge$Types", "part", "[I", true)
  | 2 => ("LowForge$Types", "places", "[I", true)
  | 3 => ("LowForge$Types", "size", "[I", true)
  | 4 => ("LowForge$Types", "used", "I", false)
  | 5 => ("LowForge$Types", "fieldName", "[I", true)
  | 6 => ("LowForge$Types", "fieldFlips", "[Z", true)
  | 7 => ("LowForge$Types", "fieldType", "[I", true)
  | 8 => ("LowForge$Types", "fieldOffset", "[I", true)
  | 9 => ("LowForge$Types", "nextField", "[I", true)
  | _ => ("LowForge$Types", "fields", "I", false)
def tyZ12 : Nat → FieldType := fun k => match k with
  | 0 => .array (.int)
  | 1 => .array (.int)
  | 2 => .array (.int)
  | 3 => .array (.int)
  | 4 => .int
  | 5 => .array (.int)
  | 6 => .array (.boolean)
  | 7 => .array (.int)
  | 8 => .array (.int)
  | 9 => .array (.int)
  | _ => .int
def clZ : List vw_C := [("LowForgeModel", TZ0, 76), ("LowForge", TZ1, 11), ("LowForge$Checker", TZ2, 7), ("LowForge$Circuit", TZ3, 16), ("LowForge$Links", TZ4, 2), ("LowForge$Lowering", TZ5, 11), ("LowForge$Nodes", TZ6, 8), ("LowForge$Parser", TZ7, 8), ("LowForge$Signals", TZ8, 7), ("LowForge$Sizer", TZ9, 2), ("LowForge$Steps", TZ10, 7), ("LowForge$Tokens", TZ11, 4), ("LowForge$Types", TZ12, 11)]
def TZ (c : Nat) : u_T := ([TZ0, TZ1, TZ2, TZ3, TZ4, TZ5, TZ6, TZ7, TZ8, TZ9, TZ10, TZ11, TZ12] : List u_T).getD c TZ0
def tyZ (c : Nat) : Nat → FieldType := ([tyZ0, tyZ1, tyZ2, tyZ3, tyZ4, tyZ5, tyZ6, tyZ7, tyZ8, tyZ9, tyZ10, tyZ11, tyZ12] : List (Nat → FieldType)).getD c tyZ0
def nfZ (c : Nat) : Nat := ([76, 11, 7, 16, 2, 11, 8, 8, 7, 2, 7, 4, 11] : List Nat).getD c 0
def mN (y : Nat) : MethodName := ([⟨"LowForgeModel", "thrown", "()I"⟩, ⟨"LowForgeModel", "in", "(III)Z"⟩, ⟨"LowForgeModel", "fail", "(I)I"⟩, ⟨"LowForgeModel", "text", "(J)I"⟩, ⟨"LowForgeModel", "clear", "()I"⟩, ⟨"LowForgeModel", "wrong", "(I)V"⟩, ⟨"LowForgeModel", "charAt", "(I)I"⟩, ⟨"LowForgeModel", "here", "()I"⟩, ⟨"LowForgeModel", "expect", "(I)V"⟩, ⟨"LowForgeModel", "isDigit", "(I)Z"⟩, ⟨"LowForgeModel", "isName", "(I)Z"⟩, ⟨"LowForgeModel", "takeName", "()I"⟩, ⟨"LowForgeModel", "takeNumber", "(II)I"⟩, ⟨"LowForgeModel", "newType", "(IIII)I"⟩, ⟨"LowForgeModel", "field", "()V"⟩, ⟨"LowForgeModel", "takeType", "()I"⟩, ⟨"LowForgeModel", "newNode", "(I)I"⟩, ⟨"LowForgeModel", "takeRef", "()I"⟩, ⟨"LowForgeModel", "isTwo", "(I)Z"⟩, ⟨"LowForgeModel", "parts", "(I)I"⟩, ⟨"LowForgeModel", "put", "(III)V"⟩, ⟨"LowForgeModel", "bits", "(I)V"⟩, ⟨"LowForgeModel", "takeExpression", "()I"⟩, ⟨"LowForgeModel", "newStep", "(II)I"⟩, ⟨"LowForgeModel", "item", "(II)V"⟩, ⟨"LowForgeModel", "connect", "(I)V"⟩, ⟨"LowForgeModel", "parse", "()V"⟩, ⟨"LowForgeModel", "resolve", "(I)Z"⟩, ⟨"LowForgeModel", "isGround", "()Z"⟩, ⟨"LowForgeModel", "settles", "(I)Z"⟩, ⟨"LowForgeModel", "leaf", "(IIZ)I"⟩, ⟨"LowForgeModel", "declare", "(I)Z"⟩, ⟨"LowForgeModel", "isSink", "(I)Z"⟩, ⟨"LowForgeModel", "step", "(III)V"⟩, ⟨"LowForgeModel", "alike", "(II)Z"⟩, ⟨"LowForgeModel", "connects", "(I)Z"⟩, ⟨"LowForgeModel", "check", "()I"⟩, ⟨"LowForgeModel", "needs", "(I)I"⟩, ⟨"LowForgeModel", "more", "(II)I"⟩, ⟨"LowForgeModel", "widthOf", "(I)I"⟩, ⟨"LowForgeModel", "measure", "()Z"⟩, ⟨"LowForgeModel", "isInitialised", "(I)Z"⟩, ⟨"LowForgeModel", "refs", "(I)I"⟩, ⟨"LowForgeModel", "dependsOn", "(I)I"⟩, ⟨"LowForgeModel", "looping", "()I"⟩, ⟨"LowForgeModel", "hold", "()V"⟩, ⟨"LowForgeModel", "compile", "()I"⟩, ⟨"LowForgeModel", "where", "()I"⟩, ⟨"LowForgeModel", "mask", "(I)I"⟩, ⟨"LowForgeModel", "worthOf", "(I)I"⟩, ⟨"LowForgeModel", "become", "(I)I"⟩, ⟨"LowForgeModel", "evaluate", "()V"⟩, ⟨"LowForgeModel", "signal", "(II)I"⟩, ⟨"LowForgeModel", "depends", "(I)I"⟩, ⟨"LowForgeModel", "set", "(II)I"⟩, ⟨"LowForgeModel", "value", "(I)I"⟩, ⟨"LowForgeModel", "tick", "()V"⟩, ⟨"LowForgeModel", "clock", "(I)I"⟩, ⟨"LowForgeModel", "activity", "(I)D"⟩, ⟨"LowForgeModel", "count", "(I)I"⟩, ⟨"java/lang/System", "arraycopy", "(Ljava/lang/Object;ILjava/lang/Object;II)V"⟩, ⟨"java/lang/Math", "max", "(II)I"⟩, ⟨"java/lang/Math", "min", "(II)I"⟩, ⟨"java/util/Arrays", "fill", "([II)V"⟩, ⟨"LowForge", "text", "(J)I"⟩, ⟨"LowForge", "clear", "()I"⟩, ⟨"LowForge", "compile", "()I"⟩, ⟨"LowForge", "where", "()I"⟩, ⟨"LowForge", "signal", "(II)I"⟩, ⟨"LowForge", "depends", "(I)I"⟩, ⟨"LowForge", "set", "(II)I"⟩, ⟨"LowForge", "value", "(I)I"⟩, ⟨"LowForge", "clock", "(I)I"⟩, ⟨"LowForge", "activity", "(I)D"⟩, ⟨"LowForge", "count", "(I)I"⟩, ⟨"LowForge", "lettersIn", "(J)I"⟩, ⟨"LowForge", "maskOf", "(I)I"⟩, ⟨"LowForge$Checker", "typeErrorIn", "(LLowForge$Circuit;)I"⟩, ⟨"LowForge$Checker", "stands", "(I)Z"⟩, ⟨"LowForge$Checker", "declares", "(I)Z"⟩, ⟨"LowForge$Checker", "declaresNode", "(I)Z"⟩, ⟨"LowForge$Checker", "mayDeclare", "(II)Z"⟩, ⟨"LowForge$Checker", "kindOf", "(I)I"⟩, ⟨"LowForge$Checker", "expand", "(IIIZI)V"⟩, ⟨"LowForge$Checker", "expandFields", "(IIIZI)V"⟩, ⟨"LowForge$Checker", "isGroundExpr", "(I)Z"⟩, ⟨"LowForge$Checker", "isGround", "(I)Z"⟩, ⟨"LowForge$Checker", "matches", "(II)Z"⟩, ⟨"LowForge$Checker", "connectsSinks", "(LLowForge$Circuit;I)Z"⟩, ⟨"LowForge$Checker", "lookUp", "(I)Z"⟩, ⟨"LowForge$Circuit", "has", "(I)Z"⟩, ⟨"LowForge$Circuit", "addChoice", "(III)I"⟩, ⟨"LowForge$Circuit", "start", "()V"⟩, ⟨"LowForge$Circuit", "findOrder", "()V"⟩, ⟨"LowForge$Circuit", "settle", "()V"⟩, ⟨"LowForge$Circuit", "resultOf", "(I)I"⟩, ⟨"LowForge$Circuit", "put", "(II)I"⟩, ⟨"LowForge$Circuit", "tick", "()V"⟩, ⟨"LowForge$Links", "pairsOf", "(LLowForge$Circuit;I)I"⟩, ⟨"LowForge$Links", "sinkOf", "(LLowForge$Circuit;II)I"⟩, ⟨"LowForge$Links", "sourceOf", "(LLowForge$Circuit;II)I"⟩, ⟨"LowForge$Links", "goesBack", "(LLowForge$Circuit;II)Z"⟩, ⟨"LowForge$Lowering", "lower", "(LLowForge$Circuit;)V"⟩, ⟨"LowForge$Lowering", "findNeedsOfNodes", "(LLowForge$Nodes;)V"⟩, ⟨"LowForge$Lowering", "begin", "(LLowForge$Circuit;)V"⟩, ⟨"LowForge$Lowering", "connect", "(LLowForge$Circuit;I)V"⟩, ⟨"LowForge$Lowering", "open", "(I)V"⟩, ⟨"LowForge$Lowering", "turn", "()V"⟩, ⟨"LowForge$Lowering", "close", "(LLowForge$Circuit;)V"⟩, ⟨"LowForge$Lowering", "finish", "(LLowForge$Circuit;)V"⟩, ⟨"LowForge$Lowering", "leastUnset", "(LLowForge$Circuit;)I"⟩, ⟨"LowForge$Lowering", "leastInLoop", "(LLowForge$Circuit;)I"⟩, ⟨"LowForge$Nodes", "empty", "()V"⟩, ⟨"LowForge$Nodes", "addLeaf", "(IIII)I"⟩, ⟨"LowForge$Nodes", "addWhole", "(IIII)I"⟩, ⟨"LowForge$Nodes", "add", "(IIII)I"⟩, ⟨"LowForge$Nodes", "partsOf", "(I)I"⟩, ⟨"LowForge$Nodes", "measure", "([I)Z"⟩, ⟨"LowForge$Nodes", "widthOf", "(I[I)I"⟩, ⟨"LowForge$Nodes", "bitsOf", "(I)I"⟩, ⟨"LowForge$Nodes", "evaluate", "(I[I)I"⟩, ⟨"LowForge$Nodes", "work", "(I[I)I"⟩, ⟨"LowForge$Nodes", "join", "(III)I"⟩, ⟨"LowForge$Parser", "faultIn", "(LLowForge$Nodes;)I"⟩, ⟨"LowForge$Parser", "begin", "(LLowForge$Nodes;)V"⟩, ⟨"LowForge$Parser", "declaration", "()V"⟩, ⟨"LowForge$Parser", "node", "()V"⟩, ⟨"LowForge$Parser", "connection", "()V"⟩, ⟨"LowForge$Parser", "openChoice", "()V"⟩, ⟨"LowForge$Parser", "closeSteps", "()V"⟩, ⟨"LowForge$Parser", "type", "(I)I"⟩, ⟨"LowForge$Parser", "groundType", "()I"⟩, ⟨"LowForge$Parser", "vectorOf", "(I)I"⟩, ⟨"LowForge$Parser", "bundle", "(I)I"⟩, ⟨"LowForge$Parser", "field", "(I)I"⟩, ⟨"LowForge$Parser", "expr", "(I)I"⟩, ⟨"LowForge$Parser", "operation", "(II)I"⟩, ⟨"LowForge$Parser", "reference", "()I"⟩, ⟨"LowForge$Parser", "kind", "()I"⟩, ⟨"LowForge$Parser", "name", "()I"⟩, ⟨"LowForge$Parser", "number", "(II)I"⟩, ⟨"LowForge$Parser", "take", "(I)Z"⟩, ⟨"LowForge$Parser", "fail", "()I"⟩, ⟨"LowForge$Signals", "add", "(IIIZ)V"⟩, ⟨"LowForge$Signals", "isSink", "(IZ)Z"⟩, ⟨"LowForge$Signals", "isFree", "(I)Z"⟩, ⟨"LowForge$Signals", "sinks", "()I"⟩, ⟨"LowForge$Signals", "registers", "()I"⟩, ⟨"LowForge$Signals", "widthsTogether", "()I"⟩, ⟨"LowForge$Sizer", "resolves", "(LLowForge$Circuit;)Z"⟩, ⟨"LowForge$Sizer", "widen", "(LLowForge$Circuit;)Z"⟩, ⟨"LowForge$Sizer", "widenSinks", "(LLowForge$Circuit;I)Z"⟩, ⟨"LowForge$Sizer", "raise", "(LLowForge$Circuit;II)Z"⟩, ⟨"LowForge$Steps", "empty", "()V"⟩, ⟨"LowForge$Steps", "add", "(IIII)V"⟩, ⟨"LowForge$Steps", "addPart", "(I)V"⟩, ⟨"LowForge$Steps", "fieldPart", "(I)I"⟩, ⟨"LowForge$Tokens", "scan", "([CI)V"⟩, ⟨"LowForge$Tokens", "begin", "(II)V"⟩, ⟨"LowForge$Tokens", "growNumber", "(II)V"⟩, ⟨"LowForge$Tokens", "isDigit", "(I)Z"⟩, ⟨"LowForge$Types", "empty", "()V"⟩, ⟨"LowForge$Types", "addGround", "(I)I"⟩, ⟨"LowForge$Types", "addVector", "(II)I"⟩, ⟨"LowForge$Types", "addBundle", "(I)I"⟩, ⟨"LowForge$Types", "add", "(IIII)I"⟩, ⟨"LowForge$Types", "addField", "(IZI)I"⟩, ⟨"LowForge$Types", "fieldOf", "(II)I"⟩, ⟨"LowForge$Types", "alike", "(II)Z"⟩, ⟨"LowForge$Types", "typesAlike", "(III)Z"⟩, ⟨"LowForge$Types", "fieldsAlike", "(III)Z"⟩] : List MethodName).getD y ⟨"", "", ""⟩
def retT (r : Nat) : Option FieldType := match r with
  | 0 => none
  | 1 => some .int
  | 2 => some .boolean
  | _ => some .double
def TBW : List Cond := lw_tbl.filter goodWord
def wsZ (y : Nat) : List Cond := Cond.code (mN y) (mB y) (mL y) (retT (mRt y)) :: TBW
theorem tb_of {w : Cond} (i : Nat) (h : lw_tbl[i]? = some w) (hg : goodWord w = true) : w ∈ TBW := List.mem_filter.mpr ⟨List.mem_of_getElem? h, hg⟩
theorem tbq {w : Cond} (i : Nat) (h : (k2_sels lw_privs)[i]? = some w) (hg : goodWord w = true) : w ∈ TBW := List.mem_filter.mpr ⟨List.mem_append_left _ (List.mem_of_getElem? h), hg⟩
theorem tb1 {w : Cond} (i : Nat) (h : tables_1_1[i]? = some w) (hg : goodWord w = true) : w ∈ TBW := List.mem_filter.mpr ⟨List.mem_append_right _ (List.mem_append_left _ (List.mem_of_getElem? h)), hg⟩
theorem tb2 {w : Cond} (i : Nat) (h : tables_1_2[i]? = some w) (hg : goodWord w = true) : w ∈ TBW := List.mem_filter.mpr ⟨List.mem_append_right _ (List.mem_append_right _ (List.mem_append_left _ (List.mem_of_getElem? h))), hg⟩
theorem tb3 {w : Cond} (i : Nat) (h : tables_1_3[i]? = some w) (hg : goodWord w = true) : w ∈ TBW := List.mem_filter.mpr ⟨List.mem_append_right _ (List.mem_append_right _ (List.mem_append_right _ (List.mem_append_left _ (List.mem_of_getElem? h)))), hg⟩
theorem tb4 {w : Cond} (i : Nat) (h : tables_1_4[i]? = some w) (hg : goodWord w = true) : w ∈ TBW := List.mem_filter.mpr ⟨List.mem_append_right _ (List.mem_append_right _ (List.mem_append_right _ (List.mem_append_right _ (List.mem_append_left _ (List.mem_of_getElem? h))))), hg⟩
theorem tb5 {w : Cond} (i : Nat) (h : tables_1_5[i]? = some w) (hg : goodWord w = true) : w ∈ TBW := List.mem_filter.mpr ⟨List.mem_append_right _ (List.mem_append_right _ (List.mem_append_right _ (List.mem_append_right _ (List.mem_append_right _ (List.mem_append_left _ (List.mem_of_getElem? h)))))), hg⟩
theorem tb6 {w : Cond} (i : Nat) (h : tables_1_6[i]? = some w) (hg : goodWord w = true) : w ∈ TBW := List.mem_filter.mpr ⟨List.mem_append_right _ (List.mem_append_right _ (List.mem_append_right _ (List.mem_append_right _ (List.mem_append_right _ (List.mem_append_right _ (List.mem_append_left _ (List.mem_of_getElem? h))))))), hg⟩
theorem tb7 {w : Cond} (i : Nat) (h : tables_1_7[i]? = some w) (hg : goodWord w = true) : w ∈ TBW := List.mem_filter.mpr ⟨List.mem_append_right _ (List.mem_append_right _ (List.mem_append_right _ (List.mem_append_right _ (List.mem_append_right _ (List.mem_append_right _ (List.mem_append_right _ (List.mem_of_getElem? h))))))), hg⟩
theorem goodZ (y : Nat) (hy : Cond.code (mN y) (mB y) (mL y) (retT (mRt y)) ∈ TBW) {big : List Cond} (hb : ∀ w ∈ TBW, w ∈ big) : GoodIn big (wsZ y) := by
  intro w hw
  rcases List.mem_cons.mp hw with rfl | h
  · exact ⟨hb _ hy, Or.inl rfl⟩
  · exact ⟨hb _ h, good_of_word (List.mem_filter.mp h).2⟩
