theorem sc_allmem (ws : List Cond) (is : List Nat) (hl : ws.length = is.length) (h : (ws.zip is).all (fun p => lx_tbl[p.2]?.any (fun v => decide (v = p.1)) && goodWord p.1) = true) : ∀ w ∈ ws, w ∈ sc_Ts := by
  intro w hw
  obtain ⟨k, hk⟩ := List.getElem?_of_mem hw
  have hkl : k < is.length := by rw [← hl]; exact (List.getElem?_eq_some_iff.mp hk).1
  have hz : (ws.zip is)[k]? = some (w, is[k]) := by
    rw [List.getElem?_zip_eq_some]
    exact ⟨hk, List.getElem?_eq_getElem hkl⟩
  exact sm_mem is[k] (List.all_eq_true.mp h _ (List.mem_of_getElem? hz))
/-! THE CLASSES: fields in an order of ours -/
def sc_T0 : u_T := fun k => match k with
  | 0 => ("TwoWayGrammar", "description", "LTwoWayGrammar$Text;", true)
  | 1 => ("TwoWayGrammar", "input", "LTwoWayGrammar$Text;", true)
  | 2 => ("TwoWayGrammar", "output", "LTwoWayGrammar$Text;", true)
  | 3 => ("TwoWayGrammar", "draft", "LTwoWayGrammar$Text;", true)
  | 4 => ("TwoWayGrammar", "grammar", "LTwoWayGrammar$Grammar;", true)
  | 5 => ("TwoWayGrammar", "reader", "LTwoWayGrammar$Reader;", true)
  | 6 => ("TwoWayGrammar", "sets", "LTwoWayGrammar$Sets;", true)
  | 7 => ("TwoWayGrammar", "checks", "LTwoWayGrammar$Checks;", true)
  | 8 => ("TwoWayGrammar", "tree", "LTwoWayGrammar$Tree;", true)
  | 9 => ("TwoWayGrammar", "kept", "LTwoWayGrammar$Tree;", true)
  | 10 => ("TwoWayGrammar", "fresh", "LTwoWayGrammar$Tree;", true)
  | 11 => ("TwoWayGrammar", "parsing", "LTwoWayGrammar$Parsing;", true)
  | 12 => ("TwoWayGrammar", "growing", "LTwoWayGrammar$Growing;", true)
  | 13 => ("TwoWayGrammar", "printing", "LTwoWayGrammar$Printing;", true)
  | 14 => ("TwoWayGrammar", "readable", "Z", false)
  | _ => ("TwoWayGrammar", "good", "Z", false)
def sc_ty0 : Nat → FieldType := fun k => match k with
  | 0 => .object "TwoWayGrammar$Text"
  | 1 => .object "TwoWayGrammar$Text"
  | 2 => .object "TwoWayGrammar$Text"
  | 3 => .object "TwoWayGrammar$Text"
  | 4 => .object "TwoWayGrammar$Grammar"
  | 5 => .object "TwoWayGrammar$Reader"
  | 6 => .object "TwoWayGrammar$Sets"
  | 7 => .object "TwoWayGrammar$Checks"
  | 8 => .object "TwoWayGrammar$Tree"
  | 9 => .object "TwoWayGrammar$Tree"
  | 10 => .object "TwoWayGrammar$Tree"
  | 11 => .object "TwoWayGrammar$Parsing"
  | 12 => .object "TwoWayGrammar$Growing"
  | 13 => .object "TwoWayGrammar$Printing"
  | 14 => .boolean
  | _ => .boolean
def sc_T1 : u_T := fun k => match k with
  | 0 => ("TwoWayGrammar$Text", "chars", "[C", true)
  | _ => ("TwoWayGrammar$Text", "length", "I", false)
def sc_ty1 : Nat → FieldType := fun k => match k with
  | 0 => .array (.char)
  | _ => .int
def sc_T2 : u_T := fun k => match k with
  | 0 => ("TwoWayGrammar$Grammar", "rules", "I", false)
  | 1 => ("TwoWayGrammar$Grammar", "ruleName", "[I", true)
  | 2 => ("TwoWayGrammar$Grammar", "rulePlace", "[I", true)
  | 3 => ("TwoWayGrammar$Grammar", "formFirst", "[I", true)
  | 4 => ("TwoWayGrammar$Grammar", "formSize", "[I", true)
  | 5 => ("TwoWayGrammar$Grammar", "groups", "I", false)
  | 6 => ("TwoWayGrammar$Grammar", "alternatives", "I", false)
  | 7 => ("TwoWayGrammar$Grammar", "alternativeFirst", "[I", true)
  | 8 => ("TwoWayGrammar$Grammar", "alternativeNext", "[I", true)
  | 9 => ("TwoWayGrammar$Grammar", "alternativePlace", "[I", true)
  | 10 => ("TwoWayGrammar$Grammar", "parts", "I", false)
  | 11 => ("TwoWayGrammar$Grammar", "partSort", "[I", true)
  | 12 => ("TwoWayGrammar$Grammar", "partValue", "[I", true)
  | 13 => ("TwoWayGrammar$Grammar", "partPlace", "[I", true)
  | 14 => ("TwoWayGrammar$Grammar", "partNext", "[I", true)
  | 15 => ("TwoWayGrammar$Grammar", "partRepeat", "[I", true)
  | 16 => ("TwoWayGrammar$Grammar", "partMark", "[I", true)
  | 17 => ("TwoWayGrammar$Grammar", "partSwapped", "[I", true)
  | 18 => ("TwoWayGrammar$Grammar", "literals", "I", false)
  | _ => ("TwoWayGrammar$Grammar", "literalCode", "[I", true)
def sc_ty2 : Nat → FieldType := fun k => match k with
  | 0 => .int
  | 1 => .array (.int)
  | 2 => .array (.int)
  | 3 => .array (.int)
  | 4 => .array (.int)
  | 5 => .int
  | 6 => .int
  | 7 => .array (.int)
  | 8 => .array (.int)
  | 9 => .array (.int)
  | 10 => .int
  | 11 => .array (.int)
  | 12 => .array (.int)
  | 13 => .array (.int)
  | 14 => .array (.int)
  | 15 => .array (.int)
  | 16 => .array (.int)
  | 17 => .array (.int)
  | 18 => .int
  | _ => .array (.int)
def sc_T3 : u_T := fun k => match k with
  | 0 => ("TwoWayGrammar$Reader", "tokens", "LTwoWayGrammar$Tokens;", true)
  | 1 => ("TwoWayGrammar$Reader", "grammar", "LTwoWayGrammar$Grammar;", true)
  | 2 => ("TwoWayGrammar$Reader", "fault", "I", false)
  | _ => ("TwoWayGrammar$Reader", "faultPlace", "I", false)
def sc_ty3 : Nat → FieldType := fun k => match k with
  | 0 => .object "TwoWayGrammar$Tokens"
  | 1 => .object "TwoWayGrammar$Grammar"
  | 2 => .int
  | _ => .int
def sc_T4 : u_T := fun k => match k with
  | 0 => ("TwoWayGrammar$Tokens", "text", "LTwoWayGrammar$Text;", true)
  | 1 => ("TwoWayGrammar$Tokens", "place", "I", false)
  | 2 => ("TwoWayGrammar$Tokens", "start", "I", false)
  | 3 => ("TwoWayGrammar$Tokens", "sort", "I", false)
  | _ => ("TwoWayGrammar$Tokens", "code", "I", false)
def sc_ty4 : Nat → FieldType := fun k => match k with
  | 0 => .object "TwoWayGrammar$Text"
  | 1 => .int
  | 2 => .int
  | 3 => .int
  | _ => .int
def sc_T5 : u_T := fun k => match k with
  | 0 => ("TwoWayGrammar$Sets", "grammar", "LTwoWayGrammar$Grammar;", true)
  | 1 => ("TwoWayGrammar$Sets", "formVoid", "[I", true)
  | 2 => ("TwoWayGrammar$Sets", "formStarts", "[J", true)
  | 3 => ("TwoWayGrammar$Sets", "formFollows", "[J", true)
  | 4 => ("TwoWayGrammar$Sets", "formHeight", "[I", true)
  | 5 => ("TwoWayGrammar$Sets", "formBegins", "[I", true)
  | 6 => ("TwoWayGrammar$Sets", "alternativeVoid", "[I", true)
  | 7 => ("TwoWayGrammar$Sets", "alternativeStarts", "[J", true)
  | 8 => ("TwoWayGrammar$Sets", "alternativeBegins", "[I", true)
  | 9 => ("TwoWayGrammar$Sets", "alternativeHeight", "[I", true)
  | 10 => ("TwoWayGrammar$Sets", "directors", "[J", true)
  | 11 => ("TwoWayGrammar$Sets", "partVoid", "[I", true)
  | 12 => ("TwoWayGrammar$Sets", "partStarts", "[J", true)
  | 13 => ("TwoWayGrammar$Sets", "partFollows", "[J", true)
  | 14 => ("TwoWayGrammar$Sets", "partTops", "[I", true)
  | _ => ("TwoWayGrammar$Sets", "changed", "Z", false)
def sc_ty5 : Nat → FieldType := fun k => match k with
  | 0 => .object "TwoWayGrammar$Grammar"
  | 1 => .array (.int)
  | 2 => .array (.long)
  | 3 => .array (.long)
  | 4 => .array (.int)
  | 5 => .array (.int)
  | 6 => .array (.int)
  | 7 => .array (.long)
  | 8 => .array (.int)
  | 9 => .array (.int)
  | 10 => .array (.long)
  | 11 => .array (.int)
  | 12 => .array (.long)
  | 13 => .array (.long)
  | 14 => .array (.int)
  | _ => .boolean
def sc_T6 : u_T := fun k => match k with
  | 0 => ("TwoWayGrammar$Checks", "grammar", "LTwoWayGrammar$Grammar;", true)
  | 1 => ("TwoWayGrammar$Checks", "sets", "LTwoWayGrammar$Sets;", true)
  | _ => ("TwoWayGrammar$Checks", "found", "I", false)
def sc_ty6 : Nat → FieldType := fun k => match k with
  | 0 => .object "TwoWayGrammar$Grammar"
  | 1 => .object "TwoWayGrammar$Sets"
  | _ => .int
def sc_T7 : u_T := fun k => match k with
  | 0 => ("TwoWayGrammar$Tree", "nodes", "I", false)
  | 1 => ("TwoWayGrammar$Tree", "kinds", "[I", true)
  | 2 => ("TwoWayGrammar$Tree", "values", "[I", true)
  | _ => ("TwoWayGrammar$Tree", "sizes", "[I", true)
def sc_ty7 : Nat → FieldType := fun k => match k with
  | 0 => .int
  | 1 => .array (.int)
  | 2 => .array (.int)
  | _ => .array (.int)
def sc_T8 : u_T := fun k => match k with
  | 0 => ("TwoWayGrammar$Walk", "grammar", "LTwoWayGrammar$Grammar;", true)
  | 1 => ("TwoWayGrammar$Walk", "sets", "LTwoWayGrammar$Sets;", true)
  | 2 => ("TwoWayGrammar$Walk", "tree", "LTwoWayGrammar$Tree;", true)
  | 3 => ("TwoWayGrammar$Walk", "stopped", "Z", false)
  | 4 => ("TwoWayGrammar$Walk", "overLimit", "Z", false)
  | 5 => ("TwoWayGrammar$Walk", "uses", "I", false)
  | 6 => ("TwoWayGrammar$Parsing", "text", "LTwoWayGrammar$Text;", true)
  | 7 => ("TwoWayGrammar$Parsing", "place", "I", false)
  | 8 => ("TwoWayGrammar$Parsing", "start", "I", false)
  | 9 => ("TwoWayGrammar$Parsing", "kind", "I", false)
  | 10 => ("TwoWayGrammar$Parsing", "worth", "I", false)
  | _ => ("TwoWayGrammar$Parsing", "faultPlace", "I", false)
def sc_ty8 : Nat → FieldType := fun k => match k with
  | 0 => .object "TwoWayGrammar$Grammar"
  | 1 => .object "TwoWayGrammar$Sets"
  | 2 => .object "TwoWayGrammar$Tree"
  | 3 => .boolean
  | 4 => .boolean
  | 5 => .int
  | 6 => .object "TwoWayGrammar$Text"
  | 7 => .int
  | 8 => .int
  | 9 => .int
  | 10 => .int
  | _ => .int
def sc_T9 : u_T := fun k => match k with
  | 0 => ("TwoWayGrammar$Walk", "grammar", "LTwoWayGrammar$Grammar;", true)
  | 1 => ("TwoWayGrammar$Walk", "sets", "LTwoWayGrammar$Sets;", true)
  | 2 => ("TwoWayGrammar$Walk", "tree", "LTwoWayGrammar$Tree;", true)
  | 3 => ("TwoWayGrammar$Walk", "stopped", "Z", false)
  | 4 => ("TwoWayGrammar$Walk", "overLimit", "Z", false)
  | 5 => ("TwoWayGrammar$Walk", "uses", "I", false)
  | 6 => ("TwoWayGrammar$Growing", "x", "J", false)
  | _ => ("TwoWayGrammar$Growing", "fuel", "I", false)
def sc_ty9 : Nat → FieldType := fun k => match k with
  | 0 => .object "TwoWayGrammar$Grammar"
  | 1 => .object "TwoWayGrammar$Sets"
  | 2 => .object "TwoWayGrammar$Tree"
  | 3 => .boolean
  | 4 => .boolean
  | 5 => .int
  | 6 => .long
  | _ => .int
def sc_T10 : u_T := fun k => match k with
  | 0 => ("TwoWayGrammar$Walk", "grammar", "LTwoWayGrammar$Grammar;", true)
  | 1 => ("TwoWayGrammar$Walk", "sets", "LTwoWayGrammar$Sets;", true)
  | 2 => ("TwoWayGrammar$Walk", "tree", "LTwoWayGrammar$Tree;", true)
  | 3 => ("TwoWayGrammar$Walk", "stopped", "Z", false)
  | 4 => ("TwoWayGrammar$Walk", "overLimit", "Z", false)
  | 5 => ("TwoWayGrammar$Walk", "uses", "I", false)
  | 6 => ("TwoWayGrammar$Printing", "text", "LTwoWayGrammar$Text;", true)
  | 7 => ("TwoWayGrammar$Printing", "cursor", "I", false)
  | 8 => ("TwoWayGrammar$Printing", "level", "I", false)
  | 9 => ("TwoWayGrammar$Printing", "lineCame", "Z", false)
  | 10 => ("TwoWayGrammar$Printing", "blankCame", "Z", false)
  | 11 => ("TwoWayGrammar$Printing", "wordBefore", "Z", false)
  | _ => ("TwoWayGrammar$Printing", "tooLong", "Z", false)
def sc_ty10 : Nat → FieldType := fun k => match k with
  | 0 => .object "TwoWayGrammar$Grammar"
  | 1 => .object "TwoWayGrammar$Sets"
  | 2 => .object "TwoWayGrammar$Tree"
  | 3 => .boolean
  | 4 => .boolean
  | 5 => .int
  | 6 => .object "TwoWayGrammar$Text"
  | 7 => .int
  | 8 => .int
  | 9 => .boolean
  | 10 => .boolean
  | 11 => .boolean
  | _ => .boolean
def sc_T11 : u_T := fun k => match k with
  | 0 => ("TwoWayGrammarModel", "code", "I", false)
  | 1 => ("TwoWayGrammarModel", "describes", "I", false)
  | 2 => ("TwoWayGrammarModel", "inputs", "I", false)
  | 3 => ("TwoWayGrammarModel", "outputs", "I", false)
  | 4 => ("TwoWayGrammarModel", "described", "[I", true)
  | 5 => ("TwoWayGrammarModel", "input", "[I", true)
  | 6 => ("TwoWayGrammarModel", "output", "[I", true)
  | 7 => ("TwoWayGrammarModel", "state", "I", false)
  | 8 => ("TwoWayGrammarModel", "fault", "I", false)
  | 9 => ("TwoWayGrammarModel", "rules", "I", false)
  | 10 => ("TwoWayGrammarModel", "literals", "I", false)
  | 11 => ("TwoWayGrammarModel", "units", "I", false)
  | 12 => ("TwoWayGrammarModel", "alternatives", "I", false)
  | 13 => ("TwoWayGrammarModel", "forms", "I", false)
  | 14 => ("TwoWayGrammarModel", "rulePlace", "[I", true)
  | 15 => ("TwoWayGrammarModel", "ruleForm", "[I", true)
  | 16 => ("TwoWayGrammarModel", "ruleOf", "[I", true)
  | 17 => ("TwoWayGrammarModel", "begins", "[I", true)
  | 18 => ("TwoWayGrammarModel", "sign", "[I", true)
  | 19 => ("TwoWayGrammarModel", "keyword", "[J", true)
  | 20 => ("TwoWayGrammarModel", "sort", "[I", true)
  | 21 => ("TwoWayGrammarModel", "what", "[I", true)
  | 22 => ("TwoWayGrammarModel", "place", "[I", true)
  | 23 => ("TwoWayGrammarModel", "wrap", "[I", true)
  | 24 => ("TwoWayGrammarModel", "wrapPlace", "[I", true)
  | 25 => ("TwoWayGrammarModel", "mate", "[I", true)
  | 26 => ("TwoWayGrammarModel", "nextItem", "[I", true)
  | 27 => ("TwoWayGrammarModel", "firstItem", "[I", true)
  | 28 => ("TwoWayGrammarModel", "barPlace", "[I", true)
  | 29 => ("TwoWayGrammarModel", "nextAlternative", "[I", true)
  | 30 => ("TwoWayGrammarModel", "firstAlternative", "[I", true)
  | 31 => ("TwoWayGrammarModel", "choices", "[I", true)
  | 32 => ("TwoWayGrammarModel", "voidPart", "[Z", true)
  | 33 => ("TwoWayGrammarModel", "voidAlternative", "[Z", true)
  | 34 => ("TwoWayGrammarModel", "voidForm", "[Z", true)
  | 35 => ("TwoWayGrammarModel", "startsPart", "[J", true)
  | 36 => ("TwoWayGrammarModel", "startsAlternative", "[J", true)
  | 37 => ("TwoWayGrammarModel", "startsForm", "[J", true)
  | 38 => ("TwoWayGrammarModel", "follows", "[J", true)
  | 39 => ("TwoWayGrammarModel", "followsForm", "[J", true)
  | 40 => ("TwoWayGrammarModel", "leadsPart", "[I", true)
  | 41 => ("TwoWayGrammarModel", "leadsAlternative", "[I", true)
  | 42 => ("TwoWayGrammarModel", "leadsForm", "[I", true)
  | 43 => ("TwoWayGrammarModel", "highPart", "[I", true)
  | 44 => ("TwoWayGrammarModel", "highAlternative", "[I", true)
  | 45 => ("TwoWayGrammarModel", "highForm", "[I", true)
  | 46 => ("TwoWayGrammarModel", "row", "[I", true)
  | 47 => ("TwoWayGrammarModel", "changed", "Z", false)
  | 48 => ("TwoWayGrammarModel", "at", "I", false)
  | 49 => ("TwoWayGrammarModel", "token", "I", false)
  | 50 => ("TwoWayGrammarModel", "tokenPlace", "I", false)
  | 51 => ("TwoWayGrammarModel", "open", "I", false)
  | 52 => ("TwoWayGrammarModel", "tokenValue", "J", false)
  | 53 => ("TwoWayGrammarModel", "openForm", "[I", true)
  | 54 => ("TwoWayGrammarModel", "openAlternative", "[I", true)
  | 55 => ("TwoWayGrammarModel", "openUnit", "[I", true)
  | 56 => ("TwoWayGrammarModel", "lastItem", "[I", true)
  | 57 => ("TwoWayGrammarModel", "lastUnit", "[I", true)
  | 58 => ("TwoWayGrammarModel", "swaps", "[Z", true)
  | 59 => ("TwoWayGrammarModel", "tokens", "I", false)
  | 60 => ("TwoWayGrammarModel", "kind", "[I", true)
  | 61 => ("TwoWayGrammarModel", "from", "[I", true)
  | 62 => ("TwoWayGrammarModel", "value", "[J", true)
  | 63 => ("TwoWayGrammarModel", "nodes", "I", false)
  | 64 => ("TwoWayGrammarModel", "made", "I", false)
  | 65 => ("TwoWayGrammarModel", "kept", "I", false)
  | 66 => ("TwoWayGrammarModel", "nodeKind", "[I", true)
  | 67 => ("TwoWayGrammarModel", "level", "[I", true)
  | 68 => ("TwoWayGrammarModel", "order", "[I", true)
  | 69 => ("TwoWayGrammarModel", "madeKind", "[I", true)
  | 70 => ("TwoWayGrammarModel", "madeLevel", "[I", true)
  | 71 => ("TwoWayGrammarModel", "madeOrder", "[I", true)
  | 72 => ("TwoWayGrammarModel", "keptKind", "[I", true)
  | 73 => ("TwoWayGrammarModel", "nodeValue", "[J", true)
  | 74 => ("TwoWayGrammarModel", "madeValue", "[J", true)
  | 75 => ("TwoWayGrammarModel", "keptValue", "[J", true)
  | 76 => ("TwoWayGrammarModel", "mode", "I", false)
  | 77 => ("TwoWayGrammarModel", "todo", "I", false)
  | 78 => ("TwoWayGrammarModel", "pairs", "I", false)
  | 79 => ("TwoWayGrammarModel", "deep", "I", false)
  | 80 => ("TwoWayGrammarModel", "uses", "I", false)
  | 81 => ("TwoWayGrammarModel", "next", "I", false)
  | 82 => ("TwoWayGrammarModel", "wrong", "I", false)
  | 83 => ("TwoWayGrammarModel", "fuel", "I", false)
  | 84 => ("TwoWayGrammarModel", "indent", "I", false)
  | 85 => ("TwoWayGrammarModel", "printed", "I", false)
  | 86 => ("TwoWayGrammarModel", "doing", "[I", true)
  | 87 => ("TwoWayGrammarModel", "doingWith", "[I", true)
  | 88 => ("TwoWayGrammarModel", "doingAlso", "[I", true)
  | 89 => ("TwoWayGrammarModel", "pairBegin", "[I", true)
  | 90 => ("TwoWayGrammarModel", "pairMiddle", "[I", true)
  | 91 => ("TwoWayGrammarModel", "print", "[I", true)
  | 92 => ("TwoWayGrammarModel", "passed", "Z", false)
  | 93 => ("TwoWayGrammarModel", "blanks", "Z", false)
  | 94 => ("TwoWayGrammarModel", "lines", "Z", false)
  | _ => ("TwoWayGrammarModel", "chance", "J", false)
def sc_ty11 : Nat → FieldType := fun k => match k with
  | 0 => .int
  | 1 => .int
  | 2 => .int
  | 3 => .int
  | 4 => .array (.int)
  | 5 => .array (.int)
  | 6 => .array (.int)
  | 7 => .int
  | 8 => .int
  | 9 => .int
  | 10 => .int
  | 11 => .int
  | 12 => .int
  | 13 => .int
  | 14 => .array (.int)
  | 15 => .array (.int)
  | 16 => .array (.int)
  | 17 => .array (.int)
  | 18 => .array (.int)
  | 19 => .array (.long)
  | 20 => .array (.int)
  | 21 => .array (.int)
  | 22 => .array (.int)
  | 23 => .array (.int)
  | 24 => .array (.int)
  | 25 => .array (.int)
  | 26 => .array (.int)
  | 27 => .array (.int)
  | 28 => .array (.int)
  | 29 => .array (.int)
  | 30 => .array (.int)
  | 31 => .array (.int)
  | 32 => .array (.boolean)
  | 33 => .array (.boolean)
  | 34 => .array (.boolean)
  | 35 => .array (.long)
  | 36 => .array (.long)
  | 37 => .array (.long)
  | 38 => .array (.long)
  | 39 => .array (.long)
  | 40 => .array (.int)
  | 41 => .array (.int)
  | 42 => .array (.int)
  | 43 => .array (.int)
  | 44 => .array (.int)
  | 45 => .array (.int)
  | 46 => .array (.int)
  | 47 => .boolean
  | 48 => .int
  | 49 => .int
  | 50 => .int
  | 51 => .int
  | 52 => .long
  | 53 => .array (.int)
  | 54 => .array (.int)
  | 55 => .array (.int)
  | 56 => .array (.int)
  | 57 => .array (.int)
  | 58 => .array (.boolean)
  | 59 => .int
  | 60 => .array (.int)
  | 61 => .array (.int)
  | 62 => .array (.long)
  | 63 => .int
  | 64 => .int
  | 65 => .int
  | 66 => .array (.int)
  | 67 => .array (.int)
  | 68 => .array (.int)
  | 69 => .array (.int)
  | 70 => .array (.int)
  | 71 => .array (.int)
  | 72 => .array (.int)
  | 73 => .array (.long)
  | 74 => .array (.long)
  | 75 => .array (.long)
  | 76 => .int
  | 77 => .int
  | 78 => .int
  | 79 => .int
  | 80 => .int
  | 81 => .int
  | 82 => .int
  | 83 => .int
  | 84 => .int
  | 85 => .int
  | 86 => .array (.int)
  | 87 => .array (.int)
  | 88 => .array (.int)
  | 89 => .array (.int)
  | 90 => .array (.int)
  | 91 => .array (.int)
  | 92 => .boolean
  | 93 => .boolean
  | 94 => .boolean
  | _ => .long
def sc_T12 : u_T := fun k => match k with
  | _ => ("", "", "", false)
def sc_T13 : u_T := fun k => match k with
  | _ => ("", "", "", false)
def sc_T14 : u_T := fun k => match k with
  | _ => ("", "", "", false)
def sc_T15 : u_T := fun k => match k with
  | _ => ("", "", "", false)
def sc_T16 : u_T := fun k => match k with
  | _ => ("", "", "", false)
def sc_cl : List vw_C := [("TwoWayGrammar", sc_T0, 16), ("TwoWayGrammar$Text", sc_T1, 2), ("TwoWayGrammar$Grammar", sc_T2, 20), ("TwoWayGrammar$Reader", sc_T3, 4), ("TwoWayGrammar$Tokens", sc_T4, 5), ("TwoWayGrammar$Sets", sc_T5, 16), ("TwoWayGrammar$Checks", sc_T6, 3), ("TwoWayGrammar$Tree", sc_T7, 4), ("TwoWayGrammar$Parsing", sc_T8, 12), ("TwoWayGrammar$Growing", sc_T9, 8), ("TwoWayGrammar$Printing", sc_T10, 13), ("TwoWayGrammarModel", sc_T11, 96), ("java/lang/IndexOutOfBoundsException", sc_T12, 0), ("java/lang/IllegalArgumentException", sc_T13, 0), ("java/lang/IllegalStateException", sc_T14, 0), ("java/lang/UnsupportedOperationException", sc_T15, 0), ("java/util/NoSuchElementException", sc_T16, 0)]
theorem sc_nm0 : ∀ a, a < 16 → ∀ b, b < 16 → a ≠ b → (sc_T0 a).2.1 ≠ (sc_T0 b).2.1 := by decide +kernel
theorem sc_tyok0 : ∀ k, k < 16 → parseFieldDescriptor (sc_T0 k).2.2.1 = some (sc_ty0 k) := by decide +kernel
set_option maxRecDepth 20000 in
theorem sc_in0 : ∀ w ∈ u_ws "TwoWayGrammar" sc_T0 16, w ∈ sc_Ts := by
  have h : ((u_ws "TwoWayGrammar" sc_T0 16).zip ([565, 567, 569, 571, 573, 575, 577, 579, 581, 583, 585, 587, 589, 591, 593, 595] : List Nat)).all (fun p => lx_tbl[p.2]?.any (fun v => decide (v = p.1)) && goodWord p.1) = true := by decide +kernel
  exact sc_allmem _ _ (by decide +kernel) h
theorem sc_nm1 : ∀ a, a < 2 → ∀ b, b < 2 → a ≠ b → (sc_T1 a).2.1 ≠ (sc_T1 b).2.1 := by decide +kernel
theorem sc_tyok1 : ∀ k, k < 2 → parseFieldDescriptor (sc_T1 k).2.2.1 = some (sc_ty1 k) := by decide +kernel
set_option maxRecDepth 20000 in
theorem sc_in1 : ∀ w ∈ u_ws "TwoWayGrammar$Text" sc_T1 2, w ∈ sc_Ts := by
  have h : ((u_ws "TwoWayGrammar$Text" sc_T1 2).zip ([146, 148] : List Nat)).all (fun p => lx_tbl[p.2]?.any (fun v => decide (v = p.1)) && goodWord p.1) = true := by decide +kernel
  exact sc_allmem _ _ (by decide +kernel) h
theorem sc_nm2 : ∀ a, a < 20 → ∀ b, b < 20 → a ≠ b → (sc_T2 a).2.1 ≠ (sc_T2 b).2.1 := by decide +kernel
theorem sc_tyok2 : ∀ k, k < 20 → parseFieldDescriptor (sc_T2 k).2.2.1 = some (sc_ty2 k) := by decide +kernel
set_option maxRecDepth 20000 in
theorem sc_in2 : ∀ w ∈ u_ws "TwoWayGrammar$Grammar" sc_T2 20, w ∈ sc_Ts := by
  have h : ((u_ws "TwoWayGrammar$Grammar" sc_T2 20).zip ([225, 227, 229, 231, 233, 235, 237, 239, 241, 243, 245, 247, 249, 251, 253, 255, 257, 259, 261, 263] : List Nat)).all (fun p => lx_tbl[p.2]?.any (fun v => decide (v = p.1)) && goodWord p.1) = true := by decide +kernel
  exact sc_allmem _ _ (by decide +kernel) h
theorem sc_nm3 : ∀ a, a < 4 → ∀ b, b < 4 → a ≠ b → (sc_T3 a).2.1 ≠ (sc_T3 b).2.1 := by decide +kernel
theorem sc_tyok3 : ∀ k, k < 4 → parseFieldDescriptor (sc_T3 k).2.2.1 = some (sc_ty3 k) := by decide +kernel
set_option maxRecDepth 20000 in
theorem sc_in3 : ∀ w ∈ u_ws "TwoWayGrammar$Reader" sc_T3 4, w ∈ sc_Ts := by
  have h : ((u_ws "TwoWayGrammar$Reader" sc_T3 4).zip ([302, 304, 306, 308] : List Nat)).all (fun p => lx_tbl[p.2]?.any (fun v => decide (v = p.1)) && goodWord p.1) = true := by decide +kernel
  exact sc_allmem _ _ (by decide +kernel) h
theorem sc_nm4 : ∀ a, a < 5 → ∀ b, b < 5 → a ≠ b → (sc_T4 a).2.1 ≠ (sc_T4 b).2.1 := by decide +kernel
theorem sc_tyok4 : ∀ k, k < 5 → parseFieldDescriptor (sc_T4 k).2.2.1 = some (sc_ty4 k) := by decide +kernel
set_option maxRecDepth 20000 in
theorem sc_in4 : ∀ w ∈ u_ws "TwoWayGrammar$Tokens" sc_T4 5, w ∈ sc_Ts := by
  have h : ((u_ws "TwoWayGrammar$Tokens" sc_T4 5).zip ([283, 285, 287, 289, 291] : List Nat)).all (fun p => lx_tbl[p.2]?.any (fun v => decide (v = p.1)) && goodWord p.1) = true := by decide +kernel
  exact sc_allmem _ _ (by decide +kernel) h
theorem sc_nm5 : ∀ a, a < 16 → ∀ b, b < 16 → a ≠ b → (sc_T5 a).2.1 ≠ (sc_T5 b).2.1 := by decide +kernel
theorem sc_tyok5 : ∀ k, k < 16 → parseFieldDescriptor (sc_T5 k).2.2.1 = some (sc_ty5 k) := by decide +kernel
set_option maxRecDepth 20000 in
theorem sc_in5 : ∀ w ∈ u_ws "TwoWayGrammar$Sets" sc_T5 16, w ∈ sc_Ts := by
  have h : ((u_ws "TwoWayGrammar$Sets" sc_T5 16).zip ([345, 347, 349, 351, 353, 355, 357, 359, 361, 363, 365, 367, 369, 371, 373, 375] : List Nat)).all (fun p => lx_tbl[p.2]?.any (fun v => decide (v = p.1)) && goodWord p.1) = true := by decide +kernel
  exact sc_allmem _ _ (by decide +kernel) h
theorem sc_nm6 : ∀ a, a < 3 → ∀ b, b < 3 → a ≠ b → (sc_T6 a).2.1 ≠ (sc_T6 b).2.1 := by decide +kernel
theorem sc_tyok6 : ∀ k, k < 3 → parseFieldDescriptor (sc_T6 k).2.2.1 = some (sc_ty6 k) := by decide +kernel
set_option maxRecDepth 20000 in
theorem sc_in6 : ∀ w ∈ u_ws "TwoWayGrammar$Checks" sc_T6 3, w ∈ sc_Ts := by
  have h : ((u_ws "TwoWayGrammar$Checks" sc_T6 3).zip ([388, 390, 392] : List Nat)).all (fun p => lx_tbl[p.2]?.any (fun v => decide (v = p.1)) && goodWord p.1) = true := by decide +kernel
  exact sc_allmem _ _ (by decide +kernel) h
theorem sc_nm7 : ∀ a, a < 4 → ∀ b, b < 4 → a ≠ b → (sc_T7 a).2.1 ≠ (sc_T7 b).2.1 := by decide +kernel
theorem sc_tyok7 : ∀ k, k < 4 → parseFieldDescriptor (sc_T7 k).2.2.1 = some (sc_ty7 k) := by decide +kernel
set_option maxRecDepth 20000 in
theorem sc_in7 : ∀ w ∈ u_ws "TwoWayGrammar$Tree" sc_T7 4, w ∈ sc_Ts := by
  have h : ((u_ws "TwoWayGrammar$Tree" sc_T7 4).zip ([413, 415, 417, 419] : List Nat)).all (fun p => lx_tbl[p.2]?.any (fun v => decide (v = p.1)) && goodWord p.1) = true := by decide +kernel
  exact sc_allmem _ _ (by decide +kernel) h
theorem sc_nm8 : ∀ a, a < 12 → ∀ b, b < 12 → a ≠ b → (sc_T8 a).2.1 ≠ (sc_T8 b).2.1 := by decide +kernel
theorem sc_tyok8 : ∀ k, k < 12 → parseFieldDescriptor (sc_T8 k).2.2.1 = some (sc_ty8 k) := by decide +kernel
set_option maxRecDepth 20000 in
theorem sc_in8 : ∀ w ∈ u_ws "TwoWayGrammar$Parsing" sc_T8 12, w ∈ sc_Ts := by
  have h : ((u_ws "TwoWayGrammar$Parsing" sc_T8 12).zip ([482, 484, 486, 488, 490, 492, 470, 472, 474, 476, 478, 480] : List Nat)).all (fun p => lx_tbl[p.2]?.any (fun v => decide (v = p.1)) && goodWord p.1) = true := by decide +kernel
  exact sc_allmem _ _ (by decide +kernel) h
theorem sc_nm9 : ∀ a, a < 8 → ∀ b, b < 8 → a ≠ b → (sc_T9 a).2.1 ≠ (sc_T9 b).2.1 := by decide +kernel
theorem sc_tyok9 : ∀ k, k < 8 → parseFieldDescriptor (sc_T9 k).2.2.1 = some (sc_ty9 k) := by decide +kernel
set_option maxRecDepth 20000 in
theorem sc_in9 : ∀ w ∈ u_ws "TwoWayGrammar$Growing" sc_T9 8, w ∈ sc_Ts := by
  have h : ((u_ws "TwoWayGrammar$Growing" sc_T9 8).zip ([507, 508, 509, 510, 511, 512, 503, 505] : List Nat)).all (fun p => lx_tbl[p.2]?.any (fun v => decide (v = p.1)) && goodWord p.1) = true := by decide +kernel
  exact sc_allmem _ _ (by decide +kernel) h
theorem sc_nm10 : ∀ a, a < 13 → ∀ b, b < 13 → a ≠ b → (sc_T10 a).2.1 ≠ (sc_T10 b).2.1 := by decide +kernel
theorem sc_tyok10 : ∀ k, k < 13 → parseFieldDescriptor (sc_T10 k).2.2.1 = some (sc_ty10 k) := by decide +kernel
set_option maxRecDepth 20000 in
theorem sc_in10 : ∀ w ∈ u_ws "TwoWayGrammar$Printing" sc_T10 13, w ∈ sc_Ts := by
  have h : ((u_ws "TwoWayGrammar$Printing" sc_T10 13).zip ([542, 543, 544, 545, 546, 547, 528, 530, 532, 534, 536, 538, 540] : List Nat)).all (fun p => lx_tbl[p.2]?.any (fun v => decide (v = p.1)) && goodWord p.1) = true := by decide +kernel
  exact sc_allmem _ _ (by decide +kernel) h
theorem sc_nm11 : ∀ a, a < 96 → ∀ b, b < 96 → a ≠ b → (sc_T11 a).2.1 ≠ (sc_T11 b).2.1 := by decide +kernel
theorem sc_tyok11 : ∀ k, k < 96 → parseFieldDescriptor (sc_T11 k).2.2.1 = some (sc_ty11 k) := by decide +kernel
set_option maxRecDepth 20000 in
theorem sc_in11 : ∀ w ∈ u_ws "TwoWayGrammarModel" sc_T11 96, w ∈ sc_Ts := by
  have h : ((u_ws "TwoWayGrammarModel" sc_T11 96).zip ([1651, 1653, 1655, 1657, 1659, 1661, 1663, 1665, 1667, 1669, 1671, 1673, 1675, 1677, 1679, 1681, 1683, 1685, 1687, 1689, 1691, 1693, 1695, 1697, 1699, 1701, 1703, 1705, 1707, 1709, 1711, 1713, 1715, 1717, 1719, 1721, 1723, 1725, 1727, 1729, 1731, 1733, 1735, 1737, 1739, 1741, 1743, 1745, 1747, 1749, 1751, 1753, 1755, 1757, 1759, 1761, 1763, 1765, 1767, 1769, 1771, 1773, 1775, 1777, 1779, 1781, 1783, 1785, 1787, 1789, 1791, 1793, 1795, 1797, 1799, 1801, 1803, 1805, 1807, 1809, 1811, 1813, 1815, 1817, 1819, 1821, 1823, 1825, 1827, 1829, 1831, 1833, 1835, 1837, 1839, 1841] : List Nat)).all (fun p => lx_tbl[p.2]?.any (fun v => decide (v = p.1)) && goodWord p.1) = true := by decide +kernel
  exact sc_allmem _ _ (by decide +kernel) h
set_option maxRecDepth 20000 in
theorem sc_in12 : ∀ w ∈ u_ws "java/lang/IndexOutOfBoundsException" sc_T12 0, w ∈ sc_Ts := by
  have h : ((u_ws "java/lang/IndexOutOfBoundsException" sc_T12 0).zip ([] : List Nat)).all (fun p => lx_tbl[p.2]?.any (fun v => decide (v = p.1)) && goodWord p.1) = true := by decide +kernel
  exact sc_allmem _ _ (by decide +kernel) h
set_option maxRecDepth 20000 in
theorem sc_in13 : ∀ w ∈ u_ws "java/lang/IllegalArgumentException" sc_T13 0, w ∈ sc_Ts := by
  have h : ((u_ws "java/lang/IllegalArgumentException" sc_T13 0).zip ([] : List Nat)).all (fun p => lx_tbl[p.2]?.any (fun v => decide (v = p.1)) && goodWord p.1) = true := by decide +kernel
  exact sc_allmem _ _ (by decide +kernel) h
set_option maxRecDepth 20000 in
theorem sc_in14 : ∀ w ∈ u_ws "java/lang/IllegalStateException" sc_T14 0, w ∈ sc_Ts := by
  have h : ((u_ws "java/lang/IllegalStateException" sc_T14 0).zip ([] : List Nat)).all (fun p => lx_tbl[p.2]?.any (fun v => decide (v = p.1)) && goodWord p.1) = true := by decide +kernel
  exact sc_allmem _ _ (by decide +kernel) h
set_option maxRecDepth 20000 in
theorem sc_in15 : ∀ w ∈ u_ws "java/lang/UnsupportedOperationException" sc_T15 0, w ∈ sc_Ts := by
  have h : ((u_ws "java/lang/UnsupportedOperationException" sc_T15 0).zip ([] : List Nat)).all (fun p => lx_tbl[p.2]?.any (fun v => decide (v = p.1)) && goodWord p.1) = true := by decide +kernel
  exact sc_allmem _ _ (by decide +kernel) h
set_option maxRecDepth 20000 in
theorem sc_in16 : ∀ w ∈ u_ws "java/util/NoSuchElementException" sc_T16 0, w ∈ sc_Ts := by
  have h : ((u_ws "java/util/NoSuchElementException" sc_T16 0).zip ([] : List Nat)).all (fun p => lx_tbl[p.2]?.any (fun v => decide (v = p.1)) && goodWord p.1) = true := by decide +kernel
  exact sc_allmem _ _ (by decide +kernel) h
