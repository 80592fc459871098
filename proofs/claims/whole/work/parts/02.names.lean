theorem goodIn_r {big : List Cond} (ws : List Cond) (ps : List Nat) (hp : ws = ps.filterMap (fun i => big[i]?)) (h : ws.all goodWord = true) : GoodIn big ws := by
  intro w hw
  have h1 := List.all_eq_true.mp h w hw
  rw [hp] at hw
  obtain ⟨i, -, hi⟩ := List.mem_filterMap.mp hw
  have hm : w ∈ big := by first | exact List.mem_of_getElem? hi | exact List.getElem?_mem hi
  exact ⟨hm, good_of_word h1⟩
theorem goodIn_app {big a b : List Cond} (ha : GoodIn big a) (hb : GoodIn big b) : GoodIn big (a ++ b) := fun w h => (List.mem_append.mp h).elim (ha w) (hb w)
theorem goodIn_ca {big a b : List Cond} {c : Cond} (ha : GoodIn big (c :: a)) (hb : GoodIn big b) : GoodIn big (c :: (a ++ b)) := fun w h => (List.mem_cons.mp h).elim (fun e => ha w (List.mem_cons.mpr (Or.inl e))) (fun h => (List.mem_append.mp h).elim (fun h => ha w (List.mem_cons.mpr (Or.inr h))) (hb w))
theorem goodIn_sub {big ws : List Cond} (hm : ∀ w ∈ ws, w ∈ big) (h : ws.all goodWord = true) : GoodIn big ws := fun w hw => ⟨hm w hw, good_of_word (List.all_eq_true.mp h w hw)⟩
theorem x_in {i : Nat} {w : Cond} (h : lw_tbl[i]? = some w) (g : goodWord w = true) : w ∈ lw_tbl.filter goodWord := List.mem_filter.mpr ⟨List.mem_of_getElem? h, g⟩
def xT_AT : u_T := fun k => match k with
  | 0 => ("PatternSearch$Atom", "kind", "I", true)
  | 1 => ("PatternSearch$Atom", "low", "J", false)
  | 2 => ("PatternSearch$Atom", "high", "J", false)
  | 3 => ("PatternSearch$Atom", "group", "I", false)
  | _ => ("PatternSearch$Atom", "inner", "LPatternSearch$Choice;", false)
def xt_AT : Nat → FieldType := fun k => match k with
  | 0 => .int
  | 1 => .long
  | 2 => .long
  | 3 => .int
  | _ => .object "PatternSearch$Choice"
theorem xn_AT : ∀ a, a < 5 → ∀ b, b < 5 → a ≠ b → (xT_AT a).2.1 ≠ (xT_AT b).2.1 := by decide +kernel
theorem xo_AT : ∀ k, k < 5 → parseFieldDescriptor (xT_AT k).2.2.1 = some (xt_AT k) := by decide +kernel
def xT_BO : u_T := fun k => match k with
  | _ => ("PatternSearch$Bounds", "places", "[I", true)
def xt_BO : Nat → FieldType := fun k => match k with
  | _ => .array .int
theorem xn_BO : ∀ a, a < 1 → ∀ b, b < 1 → a ≠ b → (xT_BO a).2.1 ≠ (xT_BO b).2.1 := by decide +kernel
theorem xo_BO : ∀ k, k < 1 → parseFieldDescriptor (xT_BO k).2.2.1 = some (xt_BO k) := by decide +kernel
def xT_CH : u_T := fun k => match k with
  | 0 => ("PatternSearch$Choice", "lastRow", "LPatternSearch$Row;", false)
  | 1 => ("PatternSearch$Choice", "size", "I", false)
  | _ => ("PatternSearch$Choice", "emptyRow", "Z", false)
def xt_CH : Nat → FieldType := fun k => match k with
  | 0 => .object "PatternSearch$Row"
  | 1 => .int
  | _ => .boolean
theorem xn_CH : ∀ a, a < 3 → ∀ b, b < 3 → a ≠ b → (xT_CH a).2.1 ≠ (xT_CH b).2.1 := by decide +kernel
theorem xo_CH : ∀ k, k < 3 → parseFieldDescriptor (xT_CH k).2.2.1 = some (xt_CH k) := by decide +kernel
def xT_MA : u_T := fun k => match k with
  | 0 => ("PatternSearch$Matcher", "program", "LPatternSearch$Program;", true)
  | 1 => ("PatternSearch$Matcher", "fits", "[I", true)
  | 2 => ("PatternSearch$Matcher", "leads", "[I", true)
  | _ => ("PatternSearch$Matcher", "length", "I", false)
def xt_MA : Nat → FieldType := fun k => match k with
  | 0 => .object "PatternSearch$Program"
  | 1 => .array .int
  | 2 => .array .int
  | _ => .int
theorem xn_MA : ∀ a, a < 4 → ∀ b, b < 4 → a ≠ b → (xT_MA a).2.1 ≠ (xT_MA b).2.1 := by decide +kernel
theorem xo_MA : ∀ k, k < 4 → parseFieldDescriptor (xT_MA k).2.2.1 = some (xt_MA k) := by decide +kernel
def xT_PI : u_T := fun k => match k with
  | 0 => ("PatternSearch$Piece", "atom", "LPatternSearch$Atom;", true)
  | 1 => ("PatternSearch$Piece", "before", "LPatternSearch$Piece;", false)
  | 2 => ("PatternSearch$Piece", "least", "I", false)
  | 3 => ("PatternSearch$Piece", "most", "I", false)
  | 4 => ("PatternSearch$Piece", "unbounded", "Z", false)
  | _ => ("PatternSearch$Piece", "sparing", "Z", false)
def xt_PI : Nat → FieldType := fun k => match k with
  | 0 => .object "PatternSearch$Atom"
  | 1 => .object "PatternSearch$Piece"
  | 2 => .int
  | 3 => .int
  | 4 => .boolean
  | _ => .boolean
theorem xn_PI : ∀ a, a < 6 → ∀ b, b < 6 → a ≠ b → (xT_PI a).2.1 ≠ (xT_PI b).2.1 := by decide +kernel
theorem xo_PI : ∀ k, k < 6 → parseFieldDescriptor (xT_PI k).2.2.1 = some (xt_PI k) := by decide +kernel
def xT_PR : u_T := fun k => match k with
  | 0 => ("PatternSearch$Program", "kinds", "[I", true)
  | 1 => ("PatternSearch$Program", "nexts", "[I", true)
  | 2 => ("PatternSearch$Program", "others", "[I", true)
  | 3 => ("PatternSearch$Program", "slots", "[I", true)
  | 4 => ("PatternSearch$Program", "lows", "[J", true)
  | 5 => ("PatternSearch$Program", "highs", "[J", true)
  | 6 => ("PatternSearch$Program", "count", "I", false)
  | _ => ("PatternSearch$Program", "first", "I", false)
def xt_PR : Nat → FieldType := fun k => match k with
  | 0 => .array .int
  | 1 => .array .int
  | 2 => .array .int
  | 3 => .array .int
  | 4 => .array .long
  | 5 => .array .long
  | 6 => .int
  | _ => .int
theorem xn_PR : ∀ a, a < 8 → ∀ b, b < 8 → a ≠ b → (xT_PR a).2.1 ≠ (xT_PR b).2.1 := by decide +kernel
theorem xo_PR : ∀ k, k < 8 → parseFieldDescriptor (xT_PR k).2.2.1 = some (xt_PR k) := by decide +kernel
def xT_RE : u_T := fun k => match k with
  | 0 => ("PatternSearch$Reader", "signs", "LPatternSearch$Signs;", true)
  | 1 => ("PatternSearch$Reader", "place", "I", false)
  | 2 => ("PatternSearch$Reader", "groups", "I", false)
  | 3 => ("PatternSearch$Reader", "endless", "Z", false)
  | _ => ("PatternSearch$Reader", "stuck", "Z", false)
def xt_RE : Nat → FieldType := fun k => match k with
  | 0 => .object "PatternSearch$Signs"
  | 1 => .int
  | 2 => .int
  | 3 => .boolean
  | _ => .boolean
theorem xn_RE : ∀ a, a < 5 → ∀ b, b < 5 → a ≠ b → (xT_RE a).2.1 ≠ (xT_RE b).2.1 := by decide +kernel
theorem xo_RE : ∀ k, k < 5 → parseFieldDescriptor (xT_RE k).2.2.1 = some (xt_RE k) := by decide +kernel
def xT_RO : u_T := fun k => match k with
  | 0 => ("PatternSearch$Row", "before", "LPatternSearch$Row;", false)
  | 1 => ("PatternSearch$Row", "lastPiece", "LPatternSearch$Piece;", false)
  | 2 => ("PatternSearch$Row", "size", "I", false)
  | _ => ("PatternSearch$Row", "canBeEmpty", "Z", false)
def xt_RO : Nat → FieldType := fun k => match k with
  | 0 => .object "PatternSearch$Row"
  | 1 => .object "PatternSearch$Piece"
  | 2 => .int
  | _ => .boolean
theorem xn_RO : ∀ a, a < 4 → ∀ b, b < 4 → a ≠ b → (xT_RO a).2.1 ≠ (xT_RO b).2.1 := by decide +kernel
theorem xo_RO : ∀ k, k < 4 → parseFieldDescriptor (xT_RO k).2.2.1 = some (xt_RO k) := by decide +kernel
def xT_SI : u_T := fun k => match k with
  | 0 => ("PatternSearch$Signs", "row", "[I", true)
  | _ => ("PatternSearch$Signs", "length", "I", false)
def xt_SI : Nat → FieldType := fun k => match k with
  | 0 => .array .int
  | _ => .int
theorem xn_SI : ∀ a, a < 2 → ∀ b, b < 2 → a ≠ b → (xT_SI a).2.1 ≠ (xT_SI b).2.1 := by decide +kernel
theorem xo_SI : ∀ k, k < 2 → parseFieldDescriptor (xT_SI k).2.2.1 = some (xt_SI k) := by decide +kernel
def xT_PS : u_T := fun k => match k with
  | 0 => ("PatternSearch", "patternSigns", "LPatternSearch$Signs;", true)
  | 1 => ("PatternSearch", "textSigns", "LPatternSearch$Signs;", true)
  | 2 => ("PatternSearch", "outputSigns", "LPatternSearch$Signs;", true)
  | 3 => ("PatternSearch", "matcher", "LPatternSearch$Matcher;", true)
  | 4 => ("PatternSearch", "found", "LPatternSearch$Bounds;", true)
  | 5 => ("PatternSearch", "current", "LPatternSearch$Bounds;", true)
  | 6 => ("PatternSearch", "ready", "Z", false)
  | _ => ("PatternSearch", "readySize", "I", false)
def xt_PS : Nat → FieldType := fun k => match k with
  | 0 => .object "PatternSearch$Signs"
  | 1 => .object "PatternSearch$Signs"
  | 2 => .object "PatternSearch$Signs"
  | 3 => .object "PatternSearch$Matcher"
  | 4 => .object "PatternSearch$Bounds"
  | 5 => .object "PatternSearch$Bounds"
  | 6 => .boolean
  | _ => .int
theorem xn_PS : ∀ a, a < 8 → ∀ b, b < 8 → a ≠ b → (xT_PS a).2.1 ≠ (xT_PS b).2.1 := by decide +kernel
theorem xo_PS : ∀ k, k < 8 → parseFieldDescriptor (xT_PS k).2.2.1 = some (xt_PS k) := by decide +kernel
def xT_MO : u_T := fun k => match k with
  | 0 => ("PatternSearchModel", "pattern", "[I", true)
  | 1 => ("PatternSearchModel", "patternLength", "I", false)
  | 2 => ("PatternSearchModel", "text", "[I", true)
  | 3 => ("PatternSearchModel", "textLength", "I", false)
  | 4 => ("PatternSearchModel", "output", "[I", true)
  | 5 => ("PatternSearchModel", "outputLength", "I", false)
  | 6 => ("PatternSearchModel", "ready", "Z", false)
  | 7 => ("PatternSearchModel", "found", "Z", false)
  | 8 => ("PatternSearchModel", "caught", "[I", true)
  | 9 => ("PatternSearchModel", "choiceSize", "[I", true)
  | 10 => ("PatternSearchModel", "rowSize", "[I", true)
  | 11 => ("PatternSearchModel", "rowEmpty", "[Z", true)
  | 12 => ("PatternSearchModel", "someEmpty", "[Z", true)
  | 13 => ("PatternSearchModel", "pieceSize", "I", false)
  | 14 => ("PatternSearchModel", "pieceEmpty", "Z", false)
  | 15 => ("PatternSearchModel", "endless", "Z", false)
  | 16 => ("PatternSearchModel", "groups", "I", false)
  | 17 => ("PatternSearchModel", "size", "I", false)
  | 18 => ("PatternSearchModel", "step", "[I", true)
  | 19 => ("PatternSearchModel", "one", "[I", true)
  | 20 => ("PatternSearchModel", "two", "[I", true)
  | 21 => ("PatternSearchModel", "steps", "I", false)
  | 22 => ("PatternSearchModel", "atomAt", "[I", true)
  | 23 => ("PatternSearchModel", "rowAt", "[I", true)
  | 24 => ("PatternSearchModel", "groupAt", "[I", true)
  | 25 => ("PatternSearchModel", "jumpsFrom", "[I", true)
  | 26 => ("PatternSearchModel", "jumps", "[I", true)
  | 27 => ("PatternSearchModel", "jumpCount", "I", false)
  | 28 => ("PatternSearchModel", "tried", "[Z", true)
  | 29 => ("PatternSearchModel", "stack", "[I", true)
  | _ => ("PatternSearchModel", "marks", "[I", true)
def xt_MO : Nat → FieldType := fun k => match k with
  | 0 => .array .int
  | 1 => .int
  | 2 => .array .int
  | 3 => .int
  | 4 => .array .int
  | 5 => .int
  | 6 => .boolean
  | 7 => .boolean
  | 8 => .array .int
  | 9 => .array .int
  | 10 => .array .int
  | 11 => .array .boolean
  | 12 => .array .boolean
  | 13 => .int
  | 14 => .boolean
  | 15 => .boolean
  | 16 => .int
  | 17 => .int
  | 18 => .array .int
  | 19 => .array .int
  | 20 => .array .int
  | 21 => .int
  | 22 => .array .int
  | 23 => .array .int
  | 24 => .array .int
  | 25 => .array .int
  | 26 => .array .int
  | 27 => .int
  | 28 => .array .boolean
  | 29 => .array .int
  | _ => .array .int
theorem xn_MO : ∀ a, a < 31 → ∀ b, b < 31 → a ≠ b → (xT_MO a).2.1 ≠ (xT_MO b).2.1 := by decide +kernel
theorem xo_MO : ∀ k, k < 31 → parseFieldDescriptor (xT_MO k).2.2.1 = some (xt_MO k) := by decide +kernel
abbrev vwCl : List vw_C := [("PatternSearch$Atom", xT_AT, 5), ("PatternSearch$Bounds", xT_BO, 1), ("PatternSearch$Choice", xT_CH, 3), ("PatternSearch$Matcher", xT_MA, 4), ("PatternSearch$Piece", xT_PI, 6), ("PatternSearch$Program", xT_PR, 8), ("PatternSearch$Reader", xT_RE, 5), ("PatternSearch$Row", xT_RO, 4), ("PatternSearch$Signs", xT_SI, 2), ("PatternSearch", xT_PS, 8), ("PatternSearchModel", xT_MO, 31)]
abbrev m_law : MethodName × ByteArray × Nat × Option FieldType := (x, code, 4, ret)
abbrev m_PS_init : MethodName × ByteArray × Nat × Option FieldType := (⟨"PatternSearch", "<init>", "()V"⟩, prog_1_method_1_code, 1, none)
abbrev m_SI_init : MethodName × ByteArray × Nat × Option FieldType := (⟨"PatternSearch$Signs", "<init>", "(I)V"⟩, prog_10_method_1_code, 2, none)
abbrev m_MA_init : MethodName × ByteArray × Nat × Option FieldType := (⟨"PatternSearch$Matcher", "<init>", "()V"⟩, prog_5_method_1_code, 1, none)
abbrev m_PR_init : MethodName × ByteArray × Nat × Option FieldType := (⟨"PatternSearch$Program", "<init>", "()V"⟩, prog_7_method_1_code, 1, none)
abbrev m_BO_init : MethodName × ByteArray × Nat × Option FieldType := (⟨"PatternSearch$Bounds", "<init>", "()V"⟩, prog_3_method_1_code, 1, none)
abbrev m_PS_pattern : MethodName × ByteArray × Nat × Option FieldType := (⟨"PatternSearch", "pattern", "(I)I"⟩, prog_1_method_2_code, 2, (some .int))
abbrev m_PS_isSign : MethodName × ByteArray × Nat × Option FieldType := (⟨"PatternSearch", "isSign", "(I)Z"⟩, prog_1_method_15_code, 1, (some .boolean))
abbrev m_SI_isFull : MethodName × ByteArray × Nat × Option FieldType := (⟨"PatternSearch$Signs", "isFull", "()Z"⟩, prog_10_method_3_code, 1, (some .boolean))
abbrev m_SI_add : MethodName × ByteArray × Nat × Option FieldType := (⟨"PatternSearch$Signs", "add", "(I)V"⟩, prog_10_method_6_code, 2, none)
abbrev m_SI_length : MethodName × ByteArray × Nat × Option FieldType := (⟨"PatternSearch$Signs", "length", "()I"⟩, prog_10_method_2_code, 1, (some .int))
abbrev m_PS_newPattern : MethodName × ByteArray × Nat × Option FieldType := (⟨"PatternSearch", "newPattern", "()I"⟩, prog_1_method_3_code, 1, (some .int))
abbrev m_SI_clear : MethodName × ByteArray × Nat × Option FieldType := (⟨"PatternSearch$Signs", "clear", "()V"⟩, prog_10_method_5_code, 1, none)
abbrev m_PS_compile : MethodName × ByteArray × Nat × Option FieldType := (⟨"PatternSearch", "compile", "()I"⟩, prog_1_method_4_code, 3, (some .int))
abbrev m_RE_init : MethodName × ByteArray × Nat × Option FieldType := (⟨"PatternSearch$Reader", "<init>", "(LPatternSearch$Signs;)V"⟩, prog_8_method_1_code, 2, none)
abbrev m_RE_readChoice : MethodName × ByteArray × Nat × Option FieldType := (⟨"PatternSearch$Reader", "readChoice", "()LPatternSearch$Choice;"⟩, prog_8_method_5_code, 3, (some (.object "PatternSearch$Choice")))
abbrev m_CH_init : MethodName × ByteArray × Nat × Option FieldType := (⟨"PatternSearch$Choice", "<init>", "()V"⟩, prog_4_method_1_code, 1, none)
abbrev m_RE_readRow : MethodName × ByteArray × Nat × Option FieldType := (⟨"PatternSearch$Reader", "readRow", "()LPatternSearch$Row;"⟩, prog_8_method_6_code, 3, (some (.object "PatternSearch$Row")))
abbrev m_RO_init : MethodName × ByteArray × Nat × Option FieldType := (⟨"PatternSearch$Row", "<init>", "()V"⟩, prog_9_method_1_code, 1, none)
abbrev m_RE_peek : MethodName × ByteArray × Nat × Option FieldType := (⟨"PatternSearch$Reader", "peek", "()I"⟩, prog_8_method_20_code, 1, (some .int))
abbrev m_SI_at : MethodName × ByteArray × Nat × Option FieldType := (⟨"PatternSearch$Signs", "at", "(I)I"⟩, prog_10_method_4_code, 2, (some .int))
abbrev m_RE_beginsAtom : MethodName × ByteArray × Nat × Option FieldType := (⟨"PatternSearch$Reader", "beginsAtom", "(I)Z"⟩, prog_8_method_17_code, 2, (some .boolean))
abbrev m_RE_isPlain : MethodName × ByteArray × Nat × Option FieldType := (⟨"PatternSearch$Reader", "isPlain", "(I)Z"⟩, prog_8_method_18_code, 1, (some .boolean))
abbrev m_RE_readPiece : MethodName × ByteArray × Nat × Option FieldType := (⟨"PatternSearch$Reader", "readPiece", "()LPatternSearch$Piece;"⟩, prog_8_method_7_code, 2, (some (.object "PatternSearch$Piece")))
abbrev m_RE_readAtom : MethodName × ByteArray × Nat × Option FieldType := (⟨"PatternSearch$Reader", "readAtom", "()LPatternSearch$Atom;"⟩, prog_8_method_11_code, 2, (some (.object "PatternSearch$Atom")))
abbrev m_RE_readGroup : MethodName × ByteArray × Nat × Option FieldType := (⟨"PatternSearch$Reader", "readGroup", "()LPatternSearch$Atom;"⟩, prog_8_method_13_code, 3, (some (.object "PatternSearch$Atom")))
abbrev m_AT_init : MethodName × ByteArray × Nat × Option FieldType := (⟨"PatternSearch$Atom", "<init>", "(I)V"⟩, prog_2_method_1_code, 2, none)
abbrev m_AT_enclose : MethodName × ByteArray × Nat × Option FieldType := (⟨"PatternSearch$Atom", "enclose", "(ILPatternSearch$Choice;)V"⟩, prog_2_method_4_code, 3, none)
abbrev m_RE_expect : MethodName × ByteArray × Nat × Option FieldType := (⟨"PatternSearch$Reader", "expect", "(I)V"⟩, prog_8_method_22_code, 2, none)
abbrev m_RE_take : MethodName × ByteArray × Nat × Option FieldType := (⟨"PatternSearch$Reader", "take", "(I)Z"⟩, prog_8_method_21_code, 2, (some .boolean))
abbrev m_RE_readClass : MethodName × ByteArray × Nat × Option FieldType := (⟨"PatternSearch$Reader", "readClass", "()LPatternSearch$Atom;"⟩, prog_8_method_14_code, 4, (some (.object "PatternSearch$Atom")))
abbrev m_RE_readItem : MethodName × ByteArray × Nat × Option FieldType := (⟨"PatternSearch$Reader", "readItem", "(LPatternSearch$Atom;)V"⟩, prog_8_method_15_code, 4, none)
abbrev m_RE_readItemSign : MethodName × ByteArray × Nat × Option FieldType := (⟨"PatternSearch$Reader", "readItemSign", "(I)I"⟩, prog_8_method_16_code, 3, (some .int))
abbrev m_RE_isItemSign : MethodName × ByteArray × Nat × Option FieldType := (⟨"PatternSearch$Reader", "isItemSign", "(I)Z"⟩, prog_8_method_19_code, 1, (some .boolean))
abbrev m_AT_takeSigns : MethodName × ByteArray × Nat × Option FieldType := (⟨"PatternSearch$Atom", "takeSigns", "(II)V"⟩, prog_2_method_2_code, 4, none)
abbrev m_AT_takeOthers : MethodName × ByteArray × Nat × Option FieldType := (⟨"PatternSearch$Atom", "takeOthers", "()V"⟩, prog_2_method_3_code, 1, none)
abbrev m_RE_signAtom : MethodName × ByteArray × Nat × Option FieldType := (⟨"PatternSearch$Reader", "signAtom", "(II)LPatternSearch$Atom;"⟩, prog_8_method_12_code, 3, (some (.object "PatternSearch$Atom")))
abbrev m_PI_init : MethodName × ByteArray × Nat × Option FieldType := (⟨"PatternSearch$Piece", "<init>", "(LPatternSearch$Atom;)V"⟩, prog_6_method_1_code, 2, none)
abbrev m_RE_readRepetition : MethodName × ByteArray × Nat × Option FieldType := (⟨"PatternSearch$Reader", "readRepetition", "(LPatternSearch$Piece;)Z"⟩, prog_8_method_8_code, 2, (some .boolean))
abbrev m_PI_repeatUnbounded : MethodName × ByteArray × Nat × Option FieldType := (⟨"PatternSearch$Piece", "repeatUnbounded", "(I)V"⟩, prog_6_method_3_code, 2, none)
abbrev m_PI_repeat : MethodName × ByteArray × Nat × Option FieldType := (⟨"PatternSearch$Piece", "repeat", "(II)V"⟩, prog_6_method_2_code, 3, none)
abbrev m_RE_readBraces : MethodName × ByteArray × Nat × Option FieldType := (⟨"PatternSearch$Reader", "readBraces", "(LPatternSearch$Piece;)V"⟩, prog_8_method_9_code, 4, none)
abbrev m_RE_readDigit : MethodName × ByteArray × Nat × Option FieldType := (⟨"PatternSearch$Reader", "readDigit", "(I)I"⟩, prog_8_method_10_code, 3, (some .int))
abbrev m_PI_isEndless : MethodName × ByteArray × Nat × Option FieldType := (⟨"PatternSearch$Piece", "isEndless", "()Z"⟩, prog_6_method_6_code, 1, (some .boolean))
abbrev m_AT_canBeEmpty : MethodName × ByteArray × Nat × Option FieldType := (⟨"PatternSearch$Atom", "canBeEmpty", "()Z"⟩, prog_2_method_6_code, 1, (some .boolean))
abbrev m_CH_canBeEmpty : MethodName × ByteArray × Nat × Option FieldType := (⟨"PatternSearch$Choice", "canBeEmpty", "()Z"⟩, prog_4_method_4_code, 1, (some .boolean))
abbrev m_RO_add : MethodName × ByteArray × Nat × Option FieldType := (⟨"PatternSearch$Row", "add", "(LPatternSearch$Piece;)V"⟩, prog_9_method_2_code, 2, none)
abbrev m_PI_size : MethodName × ByteArray × Nat × Option FieldType := (⟨"PatternSearch$Piece", "size", "()I"⟩, prog_6_method_4_code, 1, (some .int))
abbrev m_AT_size : MethodName × ByteArray × Nat × Option FieldType := (⟨"PatternSearch$Atom", "size", "()I"⟩, prog_2_method_5_code, 1, (some .int))
abbrev m_CH_size : MethodName × ByteArray × Nat × Option FieldType := (⟨"PatternSearch$Choice", "size", "()I"⟩, prog_4_method_3_code, 1, (some .int))
abbrev m_PI_canBeEmpty : MethodName × ByteArray × Nat × Option FieldType := (⟨"PatternSearch$Piece", "canBeEmpty", "()Z"⟩, prog_6_method_5_code, 1, (some .boolean))
abbrev m_CH_add : MethodName × ByteArray × Nat × Option FieldType := (⟨"PatternSearch$Choice", "add", "(LPatternSearch$Row;)V"⟩, prog_4_method_2_code, 2, none)
abbrev m_RE_faultPlace : MethodName × ByteArray × Nat × Option FieldType := (⟨"PatternSearch$Reader", "faultPlace", "()I"⟩, prog_8_method_2_code, 1, (some .int))
abbrev m_RE_isEndless : MethodName × ByteArray × Nat × Option FieldType := (⟨"PatternSearch$Reader", "isEndless", "()Z"⟩, prog_8_method_3_code, 1, (some .boolean))
abbrev m_MA_load : MethodName × ByteArray × Nat × Option FieldType := (⟨"PatternSearch$Matcher", "load", "(LPatternSearch$Choice;)V"⟩, prog_5_method_2_code, 2, none)
abbrev m_PR_build : MethodName × ByteArray × Nat × Option FieldType := (⟨"PatternSearch$Program", "build", "(LPatternSearch$Choice;)V"⟩, prog_7_method_2_code, 3, none)
abbrev m_PR_addStep : MethodName × ByteArray × Nat × Option FieldType := (⟨"PatternSearch$Program", "addStep", "(II)I"⟩, prog_7_method_12_code, 4, (some .int))
abbrev m_PR_addChoice : MethodName × ByteArray × Nat × Option FieldType := (⟨"PatternSearch$Program", "addChoice", "(LPatternSearch$Choice;II)I"⟩, prog_7_method_4_code, 7, (some .int))
abbrev m_PR_addRow : MethodName × ByteArray × Nat × Option FieldType := (⟨"PatternSearch$Program", "addRow", "(LPatternSearch$Row;II)I"⟩, prog_7_method_5_code, 6, (some .int))
abbrev m_PR_addLoop : MethodName × ByteArray × Nat × Option FieldType := (⟨"PatternSearch$Program", "addLoop", "(LPatternSearch$Piece;II)I"⟩, prog_7_method_6_code, 6, (some .int))
abbrev m_PR_addFork : MethodName × ByteArray × Nat × Option FieldType := (⟨"PatternSearch$Program", "addFork", "(II)I"⟩, prog_7_method_11_code, 4, (some .int))
abbrev m_PR_addAtom : MethodName × ByteArray × Nat × Option FieldType := (⟨"PatternSearch$Program", "addAtom", "(LPatternSearch$Atom;II)I"⟩, prog_7_method_8_code, 5, (some .int))
abbrev m_PR_addGroup : MethodName × ByteArray × Nat × Option FieldType := (⟨"PatternSearch$Program", "addGroup", "(LPatternSearch$Atom;II)I"⟩, prog_7_method_9_code, 6, (some .int))
abbrev m_BO_endSlot : MethodName × ByteArray × Nat × Option FieldType := (⟨"PatternSearch$Bounds", "endSlot", "(I)I"⟩, prog_3_method_4_code, 1, (some .int))
abbrev m_PR_addMark : MethodName × ByteArray × Nat × Option FieldType := (⟨"PatternSearch$Program", "addMark", "(II)I"⟩, prog_7_method_10_code, 4, (some .int))
abbrev m_BO_beginSlot : MethodName × ByteArray × Nat × Option FieldType := (⟨"PatternSearch$Bounds", "beginSlot", "(I)I"⟩, prog_3_method_3_code, 1, (some .int))
abbrev m_PR_addCopies : MethodName × ByteArray × Nat × Option FieldType := (⟨"PatternSearch$Program", "addCopies", "(LPatternSearch$Piece;II)I"⟩, prog_7_method_7_code, 7, (some .int))
abbrev m_BO_clear : MethodName × ByteArray × Nat × Option FieldType := (⟨"PatternSearch$Bounds", "clear", "()V"⟩, prog_3_method_2_code, 1, none)
abbrev m_RE_groupCount : MethodName × ByteArray × Nat × Option FieldType := (⟨"PatternSearch$Reader", "groupCount", "()I"⟩, prog_8_method_4_code, 1, (some .int))
abbrev m_PS_fault : MethodName × ByteArray × Nat × Option FieldType := (⟨"PatternSearch", "fault", "()I"⟩, prog_1_method_5_code, 2, (some .int))
abbrev m_PS_text : MethodName × ByteArray × Nat × Option FieldType := (⟨"PatternSearch", "text", "(I)I"⟩, prog_1_method_6_code, 2, (some .int))
abbrev m_PS_newText : MethodName × ByteArray × Nat × Option FieldType := (⟨"PatternSearch", "newText", "()I"⟩, prog_1_method_7_code, 1, (some .int))
abbrev m_PS_find : MethodName × ByteArray × Nat × Option FieldType := (⟨"PatternSearch", "find", "(I)I"⟩, prog_1_method_8_code, 2, (some .int))
abbrev m_MA_aimAnywhere : MethodName × ByteArray × Nat × Option FieldType := (⟨"PatternSearch$Matcher", "aimAnywhere", "(LPatternSearch$Signs;)V"⟩, prog_5_method_3_code, 2, none)
abbrev m_MA_aim : MethodName × ByteArray × Nat × Option FieldType := (⟨"PatternSearch$Matcher", "aim", "(LPatternSearch$Signs;I)V"⟩, prog_5_method_7_code, 5, none)
abbrev m_MA_fittingPlaces : MethodName × ByteArray × Nat × Option FieldType := (⟨"PatternSearch$Matcher", "fittingPlaces", "(ILPatternSearch$Signs;)I"⟩, prog_5_method_8_code, 5, (some .int))
abbrev m_PR_takes : MethodName × ByteArray × Nat × Option FieldType := (⟨"PatternSearch$Program", "takes", "(II)Z"⟩, prog_7_method_3_code, 5, (some .boolean))
abbrev m_MA_spread : MethodName × ByteArray × Nat × Option FieldType := (⟨"PatternSearch$Matcher", "spread", "(I)Z"⟩, prog_5_method_9_code, 5, (some .boolean))
abbrev m_MA_leadingPlaces : MethodName × ByteArray × Nat × Option FieldType := (⟨"PatternSearch$Matcher", "leadingPlaces", "(II)I"⟩, prog_5_method_10_code, 4, (some .int))
abbrev m_MA_seek : MethodName × ByteArray × Nat × Option FieldType := (⟨"PatternSearch$Matcher", "seek", "(ILPatternSearch$Bounds;)Z"⟩, prog_5_method_6_code, 4, (some .boolean))
abbrev m_MA_leadsOn : MethodName × ByteArray × Nat × Option FieldType := (⟨"PatternSearch$Matcher", "leadsOn", "(I)Z"⟩, prog_5_method_5_code, 2, (some .boolean))
abbrev m_MA_leadsOnFrom : MethodName × ByteArray × Nat × Option FieldType := (⟨"PatternSearch$Matcher", "leadsOnFrom", "(II)Z"⟩, prog_5_method_11_code, 3, (some .boolean))
abbrev m_MA_walk : MethodName × ByteArray × Nat × Option FieldType := (⟨"PatternSearch$Matcher", "walk", "(ILPatternSearch$Bounds;)V"⟩, prog_5_method_12_code, 8, none)
abbrev m_BO_mark : MethodName × ByteArray × Nat × Option FieldType := (⟨"PatternSearch$Bounds", "mark", "(II)V"⟩, prog_3_method_7_code, 3, none)
abbrev m_BO_begin : MethodName × ByteArray × Nat × Option FieldType := (⟨"PatternSearch$Bounds", "begin", "(I)I"⟩, prog_3_method_5_code, 2, (some .int))
abbrev m_BO_inSlot : MethodName × ByteArray × Nat × Option FieldType := (⟨"PatternSearch$Bounds", "inSlot", "(I)I"⟩, prog_3_method_9_code, 2, (some .int))
abbrev m_PS_group : MethodName × ByteArray × Nat × Option FieldType := (⟨"PatternSearch", "group", "(IZ)I"⟩, prog_1_method_9_code, 3, (some .int))
abbrev m_PS_isGroup : MethodName × ByteArray × Nat × Option FieldType := (⟨"PatternSearch", "isGroup", "(I)Z"⟩, prog_1_method_16_code, 1, (some .boolean))
abbrev m_BO_end : MethodName × ByteArray × Nat × Option FieldType := (⟨"PatternSearch$Bounds", "end", "(I)I"⟩, prog_3_method_6_code, 2, (some .int))
abbrev m_PS_whole : MethodName × ByteArray × Nat × Option FieldType := (⟨"PatternSearch", "whole", "(II)I"⟩, prog_1_method_10_code, 3, (some .int))
abbrev m_MA_aimAt : MethodName × ByteArray × Nat × Option FieldType := (⟨"PatternSearch$Matcher", "aimAt", "(LPatternSearch$Signs;I)V"⟩, prog_5_method_4_code, 3, none)
abbrev m_PS_matches : MethodName × ByteArray × Nat × Option FieldType := (⟨"PatternSearch", "matches", "()I"⟩, prog_1_method_11_code, 3, (some .int))
abbrev m_BO_placeBehind : MethodName × ByteArray × Nat × Option FieldType := (⟨"PatternSearch$Bounds", "placeBehind", "()I"⟩, prog_3_method_8_code, 1, (some .int))
abbrev m_PS_replace : MethodName × ByteArray × Nat × Option FieldType := (⟨"PatternSearch", "replace", "(I)I"⟩, prog_1_method_12_code, 5, (some .int))
abbrev m_SI_addStretch : MethodName × ByteArray × Nat × Option FieldType := (⟨"PatternSearch$Signs", "addStretch", "(LPatternSearch$Signs;II)V"⟩, prog_10_method_7_code, 5, none)
abbrev m_PS_output : MethodName × ByteArray × Nat × Option FieldType := (⟨"PatternSearch", "output", "(I)I"⟩, prog_1_method_13_code, 2, (some .int))
abbrev m_PS_state : MethodName × ByteArray × Nat × Option FieldType := (⟨"PatternSearch", "state", "(I)I"⟩, prog_1_method_14_code, 2, (some .int))
abbrev m_MO_init : MethodName × ByteArray × Nat × Option FieldType := (⟨"PatternSearchModel", "<init>", "()V"⟩, prog_12_method_1_code, 1, none)
abbrev m_MO_pattern : MethodName × ByteArray × Nat × Option FieldType := (⟨"PatternSearchModel", "pattern", "(I)I"⟩, prog_12_method_27_code, 2, (some .int))
abbrev m_MO_newPattern : MethodName × ByteArray × Nat × Option FieldType := (⟨"PatternSearchModel", "newPattern", "()I"⟩, prog_12_method_28_code, 1, (some .int))
abbrev m_MO_compile : MethodName × ByteArray × Nat × Option FieldType := (⟨"PatternSearchModel", "compile", "()I"⟩, prog_12_method_29_code, 1, (some .int))
abbrev m_MO_check : MethodName × ByteArray × Nat × Option FieldType := (⟨"PatternSearchModel", "check", "()I"⟩, prog_12_method_13_code, 6, (some .int))
abbrev m_MO_openRow : MethodName × ByteArray × Nat × Option FieldType := (⟨"PatternSearchModel", "openRow", "(I)V"⟩, prog_12_method_7_code, 2, none)
abbrev m_MO_at : MethodName × ByteArray × Nat × Option FieldType := (⟨"PatternSearchModel", "at", "(I)I"⟩, prog_12_method_5_code, 2, (some .int))
abbrev m_MO_is : MethodName × ByteArray × Nat × Option FieldType := (⟨"PatternSearchModel", "is", "(IIIII)Z"⟩, prog_12_method_2_code, 5, (some .boolean))
abbrev m_MO_passRepetition : MethodName × ByteArray × Nat × Option FieldType := (⟨"PatternSearchModel", "passRepetition", "(I)I"⟩, prog_12_method_12_code, 4, (some .int))
abbrev m_MO_passBraces : MethodName × ByteArray × Nat × Option FieldType := (⟨"PatternSearchModel", "passBraces", "(I)I"⟩, prog_12_method_11_code, 5, (some .int))
abbrev m_MO_repeat : MethodName × ByteArray × Nat × Option FieldType := (⟨"PatternSearchModel", "repeat", "(IIZZ)V"⟩, prog_12_method_9_code, 5, none)
abbrev m_MO_least : MethodName × ByteArray × Nat × Option FieldType := (⟨"PatternSearchModel", "least", "(I)I"⟩, prog_12_method_6_code, 1, (some .int))
abbrev m_MO_closePiece : MethodName × ByteArray × Nat × Option FieldType := (⟨"PatternSearchModel", "closePiece", "(I)V"⟩, prog_12_method_8_code, 2, none)
abbrev m_MO_plain : MethodName × ByteArray × Nat × Option FieldType := (⟨"PatternSearchModel", "plain", "(I)Z"⟩, prog_12_method_4_code, 2, (some .boolean))
abbrev m_MO_passClass : MethodName × ByteArray × Nat × Option FieldType := (⟨"PatternSearchModel", "passClass", "(I)I"⟩, prog_12_method_10_code, 4, (some .int))
abbrev m_MO_inClass : MethodName × ByteArray × Nat × Option FieldType := (⟨"PatternSearchModel", "inClass", "(I)Z"⟩, prog_12_method_3_code, 1, (some .boolean))
abbrev m_MO_write : MethodName × ByteArray × Nat × Option FieldType := (⟨"PatternSearchModel", "write", "()V"⟩, prog_12_method_22_code, 6, none)
abbrev m_MO_open : MethodName × ByteArray × Nat × Option FieldType := (⟨"PatternSearchModel", "open", "(II)V"⟩, prog_12_method_17_code, 3, none)
abbrev m_MO_add : MethodName × ByteArray × Nat × Option FieldType := (⟨"PatternSearchModel", "add", "(III)V"⟩, prog_12_method_14_code, 4, none)
abbrev m_MO_writeRepetition : MethodName × ByteArray × Nat × Option FieldType := (⟨"PatternSearchModel", "writeRepetition", "(II)I"⟩, prog_12_method_21_code, 7, (some .int))
abbrev m_MO_insert : MethodName × ByteArray × Nat × Option FieldType := (⟨"PatternSearchModel", "insert", "(III)V"⟩, prog_12_method_15_code, 5, none)
abbrev m_MO_times : MethodName × ByteArray × Nat × Option FieldType := (⟨"PatternSearchModel", "times", "(IIIZ)V"⟩, prog_12_method_20_code, 12, none)
abbrev m_MO_copy : MethodName × ByteArray × Nat × Option FieldType := (⟨"PatternSearchModel", "copy", "(II)V"⟩, prog_12_method_16_code, 4, none)
abbrev m_MO_nextRow : MethodName × ByteArray × Nat × Option FieldType := (⟨"PatternSearchModel", "nextRow", "(I)V"⟩, prog_12_method_18_code, 3, none)
abbrev m_MO_close : MethodName × ByteArray × Nat × Option FieldType := (⟨"PatternSearchModel", "close", "(I)V"⟩, prog_12_method_19_code, 3, none)
abbrev m_MO_fault : MethodName × ByteArray × Nat × Option FieldType := (⟨"PatternSearchModel", "fault", "()I"⟩, prog_12_method_30_code, 1, (some .int))
abbrev m_MO_text : MethodName × ByteArray × Nat × Option FieldType := (⟨"PatternSearchModel", "text", "(I)I"⟩, prog_12_method_31_code, 2, (some .int))
abbrev m_MO_newText : MethodName × ByteArray × Nat × Option FieldType := (⟨"PatternSearchModel", "newText", "()I"⟩, prog_12_method_32_code, 1, (some .int))
abbrev m_MO_find : MethodName × ByteArray × Nat × Option FieldType := (⟨"PatternSearchModel", "find", "(I)I"⟩, prog_12_method_33_code, 4, (some .int))
abbrev m_MO_search : MethodName × ByteArray × Nat × Option FieldType := (⟨"PatternSearchModel", "search", "(I)I"⟩, prog_12_method_26_code, 4, (some .int))
abbrev m_MO_way : MethodName × ByteArray × Nat × Option FieldType := (⟨"PatternSearchModel", "way", "(II)I"⟩, prog_12_method_25_code, 8, (some .int))
abbrev m_MO_takes : MethodName × ByteArray × Nat × Option FieldType := (⟨"PatternSearchModel", "takes", "(II)Z"⟩, prog_12_method_24_code, 3, (some .boolean))
abbrev m_MO_ofClass : MethodName × ByteArray × Nat × Option FieldType := (⟨"PatternSearchModel", "ofClass", "(II)Z"⟩, prog_12_method_23_code, 8, (some .boolean))
abbrev m_MO_group : MethodName × ByteArray × Nat × Option FieldType := (⟨"PatternSearchModel", "group", "(IZ)I"⟩, prog_12_method_34_code, 3, (some .int))
abbrev m_MO_whole : MethodName × ByteArray × Nat × Option FieldType := (⟨"PatternSearchModel", "whole", "(II)I"⟩, prog_12_method_35_code, 3, (some .int))
abbrev m_MO_matches : MethodName × ByteArray × Nat × Option FieldType := (⟨"PatternSearchModel", "matches", "()I"⟩, prog_12_method_36_code, 3, (some .int))
abbrev m_MO_replace : MethodName × ByteArray × Nat × Option FieldType := (⟨"PatternSearchModel", "replace", "(I)I"⟩, prog_12_method_38_code, 4, (some .int))
abbrev m_MO_put : MethodName × ByteArray × Nat × Option FieldType := (⟨"PatternSearchModel", "put", "(II)V"⟩, prog_12_method_37_code, 4, none)
abbrev m_MO_output : MethodName × ByteArray × Nat × Option FieldType := (⟨"PatternSearchModel", "output", "(I)I"⟩, prog_12_method_39_code, 2, (some .int))
abbrev m_MO_state : MethodName × ByteArray × Nat × Option FieldType := (⟨"PatternSearchModel", "state", "(I)I"⟩, prog_12_method_40_code, 2, (some .int))
theorem xi_AT : ∀ w ∈ u_ws "PatternSearch$Atom" xT_AT 5, w ∈ lw_tbl.filter goodWord := fun w hw => by
  obtain ⟨h1, h2⟩ := goodIn_r (big := lw_tbl) (u_ws "PatternSearch$Atom" xT_AT 5) [424, 426, 428, 430, 432] (by decide +kernel) (by decide +kernel) w hw
  exact List.mem_filter.mpr ⟨h1, List.all_eq_true.mp (by decide +kernel : (u_ws "PatternSearch$Atom" xT_AT 5).all goodWord = true) w hw⟩
theorem xi_BO : ∀ w ∈ u_ws "PatternSearch$Bounds" xT_BO 1, w ∈ lw_tbl.filter goodWord := fun w hw => by
  obtain ⟨h1, h2⟩ := goodIn_r (big := lw_tbl) (u_ws "PatternSearch$Bounds" xT_BO 1) [161] (by decide +kernel) (by decide +kernel) w hw
  exact List.mem_filter.mpr ⟨h1, List.all_eq_true.mp (by decide +kernel : (u_ws "PatternSearch$Bounds" xT_BO 1).all goodWord = true) w hw⟩
theorem xi_CH : ∀ w ∈ u_ws "PatternSearch$Choice" xT_CH 3, w ∈ lw_tbl.filter goodWord := fun w hw => by
  obtain ⟨h1, h2⟩ := goodIn_r (big := lw_tbl) (u_ws "PatternSearch$Choice" xT_CH 3) [257, 259, 261] (by decide +kernel) (by decide +kernel) w hw
  exact List.mem_filter.mpr ⟨h1, List.all_eq_true.mp (by decide +kernel : (u_ws "PatternSearch$Choice" xT_CH 3).all goodWord = true) w hw⟩
theorem xi_MA : ∀ w ∈ u_ws "PatternSearch$Matcher" xT_MA 4, w ∈ lw_tbl.filter goodWord := fun w hw => by
  obtain ⟨h1, h2⟩ := goodIn_r (big := lw_tbl) (u_ws "PatternSearch$Matcher" xT_MA 4) [142, 144, 146, 148] (by decide +kernel) (by decide +kernel) w hw
  exact List.mem_filter.mpr ⟨h1, List.all_eq_true.mp (by decide +kernel : (u_ws "PatternSearch$Matcher" xT_MA 4).all goodWord = true) w hw⟩
theorem xi_PI : ∀ w ∈ u_ws "PatternSearch$Piece" xT_PI 6, w ∈ lw_tbl.filter goodWord := fun w hw => by
  obtain ⟨h1, h2⟩ := goodIn_r (big := lw_tbl) (u_ws "PatternSearch$Piece" xT_PI 6) [493, 495, 497, 499, 501, 503] (by decide +kernel) (by decide +kernel) w hw
  exact List.mem_filter.mpr ⟨h1, List.all_eq_true.mp (by decide +kernel : (u_ws "PatternSearch$Piece" xT_PI 6).all goodWord = true) w hw⟩
theorem xi_PR : ∀ w ∈ u_ws "PatternSearch$Program" xT_PR 8, w ∈ lw_tbl.filter goodWord := fun w hw => by
  obtain ⟨h1, h2⟩ := goodIn_r (big := lw_tbl) (u_ws "PatternSearch$Program" xT_PR 8) [120, 122, 124, 126, 128, 130, 132, 134] (by decide +kernel) (by decide +kernel) w hw
  exact List.mem_filter.mpr ⟨h1, List.all_eq_true.mp (by decide +kernel : (u_ws "PatternSearch$Program" xT_PR 8).all goodWord = true) w hw⟩
theorem xi_RE : ∀ w ∈ u_ws "PatternSearch$Reader" xT_RE 5, w ∈ lw_tbl.filter goodWord := fun w hw => by
  obtain ⟨h1, h2⟩ := goodIn_r (big := lw_tbl) (u_ws "PatternSearch$Reader" xT_RE 5) [232, 234, 236, 238, 240] (by decide +kernel) (by decide +kernel) w hw
  exact List.mem_filter.mpr ⟨h1, List.all_eq_true.mp (by decide +kernel : (u_ws "PatternSearch$Reader" xT_RE 5).all goodWord = true) w hw⟩
theorem xi_RO : ∀ w ∈ u_ws "PatternSearch$Row" xT_RO 4, w ∈ lw_tbl.filter goodWord := fun w hw => by
  obtain ⟨h1, h2⟩ := goodIn_r (big := lw_tbl) (u_ws "PatternSearch$Row" xT_RO 4) [282, 284, 286, 288] (by decide +kernel) (by decide +kernel) w hw
  exact List.mem_filter.mpr ⟨h1, List.all_eq_true.mp (by decide +kernel : (u_ws "PatternSearch$Row" xT_RO 4).all goodWord = true) w hw⟩
theorem xi_SI : ∀ w ∈ u_ws "PatternSearch$Signs" xT_SI 2, w ∈ lw_tbl.filter goodWord := fun w hw => by
  obtain ⟨h1, h2⟩ := goodIn_r (big := lw_tbl) (u_ws "PatternSearch$Signs" xT_SI 2) [88, 90] (by decide +kernel) (by decide +kernel) w hw
  exact List.mem_filter.mpr ⟨h1, List.all_eq_true.mp (by decide +kernel : (u_ws "PatternSearch$Signs" xT_SI 2).all goodWord = true) w hw⟩
theorem xi_PS : ∀ w ∈ u_ws "PatternSearch" xT_PS 8, w ∈ lw_tbl.filter goodWord := fun w hw => by
  obtain ⟨h1, h2⟩ := goodIn_r (big := lw_tbl) (u_ws "PatternSearch" xT_PS 8) [172, 174, 176, 178, 180, 182, 184, 186] (by decide +kernel) (by decide +kernel) w hw
  exact List.mem_filter.mpr ⟨h1, List.all_eq_true.mp (by decide +kernel : (u_ws "PatternSearch" xT_PS 8).all goodWord = true) w hw⟩
theorem xi_MO : ∀ w ∈ u_ws "PatternSearchModel" xT_MO 31, w ∈ lw_tbl.filter goodWord := fun w hw => by
  obtain ⟨h1, h2⟩ := goodIn_r (big := lw_tbl) (u_ws "PatternSearchModel" xT_MO 31) [793, 795, 797, 799, 801, 803, 805, 807, 809, 811, 813, 815, 817, 819, 821, 823, 825, 827, 829, 831, 833, 835, 837, 839, 841, 843, 845, 847, 849, 851, 853] (by decide +kernel) (by decide +kernel) w hw
  exact List.mem_filter.mpr ⟨h1, List.all_eq_true.mp (by decide +kernel : (u_ws "PatternSearchModel" xT_MO 31).all goodWord = true) w hw⟩
