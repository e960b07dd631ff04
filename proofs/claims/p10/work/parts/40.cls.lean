def RC0 : String := "FigureCaller"
def TC0 : u_T := fun k => match k with
  | 0 => ("FigureCaller", "text", "LFigureCaller$Text;", true)
  | 1 => ("FigureCaller", "book", "LFigureCaller$Book;", true)
  | 2 => ("FigureCaller", "reader", "LFigureCaller$Reader;", true)
  | 3 => ("FigureCaller", "dancing", "LFigureCaller$Dancing;", true)
  | 4 => ("FigureCaller", "wayHome", "LFigureCaller$WayHome;", true)
  | 5 => ("FigureCaller", "journal", "[LFigureCaller$Track;", true)
  | 6 => ("FigureCaller", "trial", "LFigureCaller$Track;", true)
  | 7 => ("FigureCaller", "otherTrial", "LFigureCaller$Track;", true)
  | 8 => ("FigureCaller", "places", "[I", true)
  | 9 => ("FigureCaller", "start", "[I", true)
  | 10 => ("FigureCaller", "danced", "I", false)
  | 11 => ("FigureCaller", "latestFault", "I", false)
  | _ => ("FigureCaller", "latestClash", "I", false)
def yC0 : Nat → FieldType := fun k => match k with
  | 0 => .object "FigureCaller$Text"
  | 1 => .object "FigureCaller$Book"
  | 2 => .object "FigureCaller$Reader"
  | 3 => .object "FigureCaller$Dancing"
  | 4 => .object "FigureCaller$WayHome"
  | 5 => .array (.object "FigureCaller$Track")
  | 6 => .object "FigureCaller$Track"
  | 7 => .object "FigureCaller$Track"
  | 8 => .array (.int)
  | 9 => .array (.int)
  | 10 => .int
  | 11 => .int
  | _ => .int
theorem nC0 : ∀ a, a < 13 → ∀ b, b < 13 → a ≠ b → (TC0 a).2.1 ≠ (TC0 b).2.1 := by decide +kernel
theorem oC0 : ∀ k, k < 13 → parseFieldDescriptor (TC0 k).2.2.1 = some (yC0 k) := by decide +kernel
def RC1 : String := "FigureCaller$Text"
def TC1 : u_T := fun k => match k with
  | 0 => ("FigureCaller$Text", "characters", "[C", true)
  | _ => ("FigureCaller$Text", "length", "I", false)
def yC1 : Nat → FieldType := fun k => match k with
  | 0 => .array (.char)
  | _ => .int
theorem nC1 : ∀ a, a < 2 → ∀ b, b < 2 → a ≠ b → (TC1 a).2.1 ≠ (TC1 b).2.1 := by decide +kernel
theorem oC1 : ∀ k, k < 2 → parseFieldDescriptor (TC1 k).2.2.1 = some (yC1 k) := by decide +kernel
def RC2 : String := "FigureCaller$Book"
def TC2 : u_T := fun k => match k with
  | 0 => ("FigureCaller$Book", "figures", "[LFigureCaller$Figure;", true)
  | 1 => ("FigureCaller$Book", "selectors", "[I", true)
  | 2 => ("FigureCaller$Book", "atoms", "[I", true)
  | 3 => ("FigureCaller$Book", "count", "I", false)
  | 4 => ("FigureCaller$Book", "keptParts", "I", false)
  | _ => ("FigureCaller$Book", "partCount", "I", false)
def yC2 : Nat → FieldType := fun k => match k with
  | 0 => .array (.object "FigureCaller$Figure")
  | 1 => .array (.int)
  | 2 => .array (.int)
  | 3 => .int
  | 4 => .int
  | _ => .int
theorem nC2 : ∀ a, a < 6 → ∀ b, b < 6 → a ≠ b → (TC2 a).2.1 ≠ (TC2 b).2.1 := by decide +kernel
theorem oC2 : ∀ k, k < 6 → parseFieldDescriptor (TC2 k).2.2.1 = some (yC2 k) := by decide +kernel
def RC3 : String := "FigureCaller$Figure"
def TC3 : u_T := fun k => match k with
  | 0 => ("FigureCaller$Figure", "firstParts", "[I", true)
  | 1 => ("FigureCaller$Figure", "endParts", "[I", true)
  | 2 => ("FigureCaller$Figure", "takenAt", "[I", true)
  | 3 => ("FigureCaller$Figure", "name", "J", false)
  | 4 => ("FigureCaller$Figure", "beatCount", "I", false)
  | 5 => ("FigureCaller$Figure", "depth", "I", false)
  | _ => ("FigureCaller$Figure", "allowed", "Z", false)
def yC3 : Nat → FieldType := fun k => match k with
  | 0 => .array (.int)
  | 1 => .array (.int)
  | 2 => .array (.int)
  | 3 => .long
  | 4 => .int
  | 5 => .int
  | _ => .boolean
theorem nC3 : ∀ a, a < 7 → ∀ b, b < 7 → a ≠ b → (TC3 a).2.1 ≠ (TC3 b).2.1 := by decide +kernel
theorem oC3 : ∀ k, k < 7 → parseFieldDescriptor (TC3 k).2.2.1 = some (yC3 k) := by decide +kernel
def RC4 : String := "FigureCaller$Reader"
def TC4 : u_T := fun k => match k with
  | 0 => ("FigureCaller$Reader", "text", "LFigureCaller$Text;", true)
  | 1 => ("FigureCaller$Reader", "book", "LFigureCaller$Book;", true)
  | 2 => ("FigureCaller$Reader", "tokens", "LFigureCaller$Tokens;", true)
  | 3 => ("FigureCaller$Reader", "times", "[I", true)
  | 4 => ("FigureCaller$Reader", "openedAt", "[I", true)
  | 5 => ("FigureCaller$Reader", "draft", "LFigureCaller$Figure;", false)
  | 6 => ("FigureCaller$Reader", "open", "I", false)
  | 7 => ("FigureCaller$Reader", "expected", "I", false)
  | 8 => ("FigureCaller$Reader", "beatStart", "I", false)
  | _ => ("FigureCaller$Reader", "selector", "I", false)
def yC4 : Nat → FieldType := fun k => match k with
  | 0 => .object "FigureCaller$Text"
  | 1 => .object "FigureCaller$Book"
  | 2 => .object "FigureCaller$Tokens"
  | 3 => .array (.int)
  | 4 => .array (.int)
  | 5 => .object "FigureCaller$Figure"
  | 6 => .int
  | 7 => .int
  | 8 => .int
  | _ => .int
theorem nC4 : ∀ a, a < 10 → ∀ b, b < 10 → a ≠ b → (TC4 a).2.1 ≠ (TC4 b).2.1 := by decide +kernel
theorem oC4 : ∀ k, k < 10 → parseFieldDescriptor (TC4 k).2.2.1 = some (yC4 k) := by decide +kernel
def RC5 : String := "FigureCaller$Tokens"
def TC5 : u_T := fun k => match k with
  | 0 => ("FigureCaller$Tokens", "text", "LFigureCaller$Text;", true)
  | 1 => ("FigureCaller$Tokens", "kind", "I", false)
  | 2 => ("FigureCaller$Tokens", "start", "I", false)
  | 3 => ("FigureCaller$Tokens", "end", "I", false)
  | 4 => ("FigureCaller$Tokens", "word", "J", false)
  | 5 => ("FigureCaller$Tokens", "digit", "I", false)
  | _ => ("FigureCaller$Tokens", "sign", "C", false)
def yC5 : Nat → FieldType := fun k => match k with
  | 0 => .object "FigureCaller$Text"
  | 1 => .int
  | 2 => .int
  | 3 => .int
  | 4 => .long
  | 5 => .int
  | _ => .char
theorem nC5 : ∀ a, a < 7 → ∀ b, b < 7 → a ≠ b → (TC5 a).2.1 ≠ (TC5 b).2.1 := by decide +kernel
theorem oC5 : ∀ k, k < 7 → parseFieldDescriptor (TC5 k).2.2.1 = some (yC5 k) := by decide +kernel
def RC6 : String := "FigureCaller$Dancing"
def TC6 : u_T := fun k => match k with
  | 0 => ("FigureCaller$Dancing", "book", "LFigureCaller$Book;", true)
  | 1 => ("FigureCaller$Dancing", "selection", "LFigureCaller$Selection;", true)
  | _ => ("FigureCaller$Dancing", "atoms", "[I", true)
def yC6 : Nat → FieldType := fun k => match k with
  | 0 => .object "FigureCaller$Book"
  | 1 => .object "FigureCaller$Selection"
  | _ => .array (.int)
theorem nC6 : ∀ a, a < 3 → ∀ b, b < 3 → a ≠ b → (TC6 a).2.1 ≠ (TC6 b).2.1 := by decide +kernel
theorem oC6 : ∀ k, k < 3 → parseFieldDescriptor (TC6 k).2.2.1 = some (yC6 k) := by decide +kernel
def RC7 : String := "FigureCaller$Selection"
def TC7 : u_T := fun k => match k with
  | _ => ("FigureCaller$Selection", "distances", "[I", true)
def yC7 : Nat → FieldType := fun k => match k with
  | _ => .array (.int)
theorem nC7 : ∀ a, a < 1 → ∀ b, b < 1 → a ≠ b → (TC7 a).2.1 ≠ (TC7 b).2.1 := by decide +kernel
theorem oC7 : ∀ k, k < 1 → parseFieldDescriptor (TC7 k).2.2.1 = some (yC7 k) := by decide +kernel
def RC8 : String := "FigureCaller$WayHome"
def TC8 : u_T := fun k => match k with
  | 0 => ("FigureCaller$WayHome", "book", "LFigureCaller$Book;", true)
  | 1 => ("FigureCaller$WayHome", "dancing", "LFigureCaller$Dancing;", true)
  | 2 => ("FigureCaller$WayHome", "rows", "[I", true)
  | 3 => ("FigureCaller$WayHome", "parents", "[I", true)
  | 4 => ("FigureCaller$WayHome", "lastCalls", "[I", true)
  | 5 => ("FigureCaller$WayHome", "calls", "[I", true)
  | 6 => ("FigureCaller$WayHome", "nodes", "I", false)
  | _ => ("FigureCaller$WayHome", "found", "I", false)
def yC8 : Nat → FieldType := fun k => match k with
  | 0 => .object "FigureCaller$Book"
  | 1 => .object "FigureCaller$Dancing"
  | 2 => .array (.int)
  | 3 => .array (.int)
  | 4 => .array (.int)
  | 5 => .array (.int)
  | 6 => .int
  | _ => .int
theorem nC8 : ∀ a, a < 8 → ∀ b, b < 8 → a ≠ b → (TC8 a).2.1 ≠ (TC8 b).2.1 := by decide +kernel
theorem oC8 : ∀ k, k < 8 → parseFieldDescriptor (TC8 k).2.2.1 = some (yC8 k) := by decide +kernel
def RC9 : String := "FigureCaller$Track"
def TC9 : u_T := fun k => match k with
  | 0 => ("FigureCaller$Track", "rows", "[I", true)
  | _ => ("FigureCaller$Track", "beatCount", "I", false)
def yC9 : Nat → FieldType := fun k => match k with
  | 0 => .array (.int)
  | _ => .int
theorem nC9 : ∀ a, a < 2 → ∀ b, b < 2 → a ≠ b → (TC9 a).2.1 ≠ (TC9 b).2.1 := by decide +kernel
theorem oC9 : ∀ k, k < 2 → parseFieldDescriptor (TC9 k).2.2.1 = some (yC9 k) := by decide +kernel
def RC10 : String := "FigureCallerModel"
def TC10 : u_T := fun k => match k with
  | 0 => ("FigureCallerModel", "code", "I", false)
  | 1 => ("FigureCallerModel", "typed", "I", false)
  | 2 => ("FigureCallerModel", "text", "[C", true)
  | 3 => ("FigureCallerModel", "fault", "I", false)
  | 4 => ("FigureCallerModel", "kind", "I", false)
  | 5 => ("FigureCallerModel", "begin", "I", false)
  | 6 => ("FigureCallerModel", "end", "I", false)
  | 7 => ("FigureCallerModel", "word", "J", false)
  | 8 => ("FigureCallerModel", "number", "I", false)
  | 9 => ("FigureCallerModel", "calls", "I", false)
  | 10 => ("FigureCallerModel", "names", "[J", true)
  | 11 => ("FigureCallerModel", "counts", "[I", true)
  | 12 => ("FigureCallerModel", "depths", "[I", true)
  | 13 => ("FigureCallerModel", "taken", "[I", true)
  | 14 => ("FigureCallerModel", "partFrom", "[I", true)
  | 15 => ("FigureCallerModel", "partTo", "[I", true)
  | 16 => ("FigureCallerModel", "parts", "I", false)
  | 17 => ("FigureCallerModel", "selectors", "[I", true)
  | 18 => ("FigureCallerModel", "atoms", "[I", true)
  | 19 => ("FigureCallerModel", "open", "I", false)
  | 20 => ("FigureCallerModel", "times", "[I", true)
  | 21 => ("FigureCallerModel", "opened", "[I", true)
  | 22 => ("FigureCallerModel", "x", "[I", true)
  | 23 => ("FigureCallerModel", "y", "[I", true)
  | 24 => ("FigureCallerModel", "f", "[I", true)
  | 25 => ("FigureCallerModel", "atX", "[I", true)
  | 26 => ("FigureCallerModel", "atY", "[I", true)
  | 27 => ("FigureCallerModel", "atF", "[I", true)
  | 28 => ("FigureCallerModel", "beat", "I", false)
  | 29 => ("FigureCallerModel", "failed", "I", false)
  | 30 => ("FigureCallerModel", "clash", "I", false)
  | 31 => ("FigureCallerModel", "danced", "I", false)
  | 32 => ("FigureCallerModel", "which", "[I", true)
  | 33 => ("FigureCallerModel", "backs", "[Z", true)
  | 34 => ("FigureCallerModel", "before", "[I", true)
  | 35 => ("FigureCallerModel", "allowed", "[Z", true)
  | 36 => ("FigureCallerModel", "found", "I", false)
  | 37 => ("FigureCallerModel", "way", "[I", true)
  | 38 => ("FigureCallerModel", "trial", "[I", true)
  | 39 => ("FigureCallerModel", "steps", "[I", true)
  | _ => ("FigureCallerModel", "kept", "[I", true)
def yC10 : Nat → FieldType := fun k => match k with
  | 0 => .int
  | 1 => .int
  | 2 => .array (.char)
  | 3 => .int
  | 4 => .int
  | 5 => .int
  | 6 => .int
  | 7 => .long
  | 8 => .int
  | 9 => .int
  | 10 => .array (.long)
  | 11 => .array (.int)
  | 12 => .array (.int)
  | 13 => .array (.int)
  | 14 => .array (.int)
  | 15 => .array (.int)
  | 16 => .int
  | 17 => .array (.int)
  | 18 => .array (.int)
  | 19 => .int
  | 20 => .array (.int)
  | 21 => .array (.int)
  | 22 => .array (.int)
  | 23 => .array (.int)
  | 24 => .array (.int)
  | 25 => .array (.int)
  | 26 => .array (.int)
  | 27 => .array (.int)
  | 28 => .int
  | 29 => .int
  | 30 => .int
  | 31 => .int
  | 32 => .array (.int)
  | 33 => .array (.boolean)
  | 34 => .array (.int)
  | 35 => .array (.boolean)
  | 36 => .int
  | 37 => .array (.int)
  | 38 => .array (.int)
  | 39 => .array (.int)
  | _ => .array (.int)
theorem nC10 : ∀ a, a < 41 → ∀ b, b < 41 → a ≠ b → (TC10 a).2.1 ≠ (TC10 b).2.1 := by decide +kernel
theorem oC10 : ∀ k, k < 41 → parseFieldDescriptor (TC10 k).2.2.1 = some (yC10 k) := by decide +kernel
def zCL : List vw_C := [(RC0, TC0, 13), (RC1, TC1, 2), (RC2, TC2, 6), (RC3, TC3, 7), (RC4, TC4, 10), (RC5, TC5, 7), (RC6, TC6, 3), (RC7, TC7, 1), (RC8, TC8, 8), (RC9, TC9, 2), (RC10, TC10, 41)]
def dC0 : List Value := [.null, .null, .null, .null, .null, .null, .null, .null, .null, .null, .int 0, .int 0, .int 0]
def dC1 : List Value := [.null, .int 0]
def dC2 : List Value := [.null, .null, .null, .int 0, .int 0, .int 0]
def dC3 : List Value := [.null, .null, .null, .long 0, .int 0, .int 0, .int 0]
def dC4 : List Value := [.null, .null, .null, .null, .null, .null, .int 0, .int 0, .int 0, .int 0]
def dC5 : List Value := [.null, .int 0, .int 0, .int 0, .long 0, .int 0, .int 0]
def dC6 : List Value := [.null, .null, .null]
def dC7 : List Value := [.null]
def dC8 : List Value := [.null, .null, .null, .null, .null, .null, .int 0, .int 0]
def dC9 : List Value := [.null, .int 0]
def dC10 : List Value := [.int 0, .int 0, .null, .int 0, .int 0, .int 0, .int 0, .long 0, .int 0, .int 0, .null, .null, .null, .null, .null, .null, .int 0, .null, .null, .int 0, .null, .null, .null, .null, .null, .null, .null, .null, .int 0, .int 0, .int 0, .int 0, .null, .null, .null, .null, .int 0, .null, .null, .null, .null]
def zDF : Nat → List Value := fun k => match k with
  | 0 => dC0
  | 1 => dC1
  | 2 => dC2
  | 3 => dC3
  | 4 => dC4
  | 5 => dC5
  | 6 => dC6
  | 7 => dC7
  | 8 => dC8
  | 9 => dC9
  | 10 => dC10
  | _ => []
theorem dfC0 : ∀ j, j < 13 → ∃ ty, parseFieldDescriptor (TC0 j).2.2.1 = some ty ∧ (dC0)[j]? = some (defaultValue ty) := fun j hj => ⟨yC0 j, oC0 j hj, (by decide +kernel : ∀ j, j < 13 → (dC0)[j]? = some (defaultValue (yC0 j))) j hj⟩
theorem dfC1 : ∀ j, j < 2 → ∃ ty, parseFieldDescriptor (TC1 j).2.2.1 = some ty ∧ (dC1)[j]? = some (defaultValue ty) := fun j hj => ⟨yC1 j, oC1 j hj, (by decide +kernel : ∀ j, j < 2 → (dC1)[j]? = some (defaultValue (yC1 j))) j hj⟩
theorem dfC2 : ∀ j, j < 6 → ∃ ty, parseFieldDescriptor (TC2 j).2.2.1 = some ty ∧ (dC2)[j]? = some (defaultValue ty) := fun j hj => ⟨yC2 j, oC2 j hj, (by decide +kernel : ∀ j, j < 6 → (dC2)[j]? = some (defaultValue (yC2 j))) j hj⟩
theorem dfC3 : ∀ j, j < 7 → ∃ ty, parseFieldDescriptor (TC3 j).2.2.1 = some ty ∧ (dC3)[j]? = some (defaultValue ty) := fun j hj => ⟨yC3 j, oC3 j hj, (by decide +kernel : ∀ j, j < 7 → (dC3)[j]? = some (defaultValue (yC3 j))) j hj⟩
theorem dfC4 : ∀ j, j < 10 → ∃ ty, parseFieldDescriptor (TC4 j).2.2.1 = some ty ∧ (dC4)[j]? = some (defaultValue ty) := fun j hj => ⟨yC4 j, oC4 j hj, (by decide +kernel : ∀ j, j < 10 → (dC4)[j]? = some (defaultValue (yC4 j))) j hj⟩
theorem dfC5 : ∀ j, j < 7 → ∃ ty, parseFieldDescriptor (TC5 j).2.2.1 = some ty ∧ (dC5)[j]? = some (defaultValue ty) := fun j hj => ⟨yC5 j, oC5 j hj, (by decide +kernel : ∀ j, j < 7 → (dC5)[j]? = some (defaultValue (yC5 j))) j hj⟩
theorem dfC6 : ∀ j, j < 3 → ∃ ty, parseFieldDescriptor (TC6 j).2.2.1 = some ty ∧ (dC6)[j]? = some (defaultValue ty) := fun j hj => ⟨yC6 j, oC6 j hj, (by decide +kernel : ∀ j, j < 3 → (dC6)[j]? = some (defaultValue (yC6 j))) j hj⟩
theorem dfC7 : ∀ j, j < 1 → ∃ ty, parseFieldDescriptor (TC7 j).2.2.1 = some ty ∧ (dC7)[j]? = some (defaultValue ty) := fun j hj => ⟨yC7 j, oC7 j hj, (by decide +kernel : ∀ j, j < 1 → (dC7)[j]? = some (defaultValue (yC7 j))) j hj⟩
theorem dfC8 : ∀ j, j < 8 → ∃ ty, parseFieldDescriptor (TC8 j).2.2.1 = some ty ∧ (dC8)[j]? = some (defaultValue ty) := fun j hj => ⟨yC8 j, oC8 j hj, (by decide +kernel : ∀ j, j < 8 → (dC8)[j]? = some (defaultValue (yC8 j))) j hj⟩
theorem dfC9 : ∀ j, j < 2 → ∃ ty, parseFieldDescriptor (TC9 j).2.2.1 = some ty ∧ (dC9)[j]? = some (defaultValue ty) := fun j hj => ⟨yC9 j, oC9 j hj, (by decide +kernel : ∀ j, j < 2 → (dC9)[j]? = some (defaultValue (yC9 j))) j hj⟩
theorem dfC10 : ∀ j, j < 41 → ∃ ty, parseFieldDescriptor (TC10 j).2.2.1 = some ty ∧ (dC10)[j]? = some (defaultValue ty) := fun j hj => ⟨yC10 j, oC10 j hj, (by decide +kernel : ∀ j, j < 41 → (dC10)[j]? = some (defaultValue (yC10 j))) j hj⟩
def zWSL : List Jvm.Cond := lw_tbl.filter zgb
-- words of class 0: zw_353 zw_355 zw_357 zw_359 zw_361 zw_363 zw_365 zw_367 zw_369 zw_371 zw_373 zw_375 zw_377
-- words of class 1: zw_103 zw_105
-- words of class 2: zw_165 zw_167 zw_169 zw_171 zw_173 zw_175
-- words of class 3: zw_138 zw_140 zw_142 zw_144 zw_146 zw_148 zw_150
-- words of class 4: zw_234 zw_236 zw_238 zw_240 zw_242 zw_244 zw_246 zw_248 zw_250 zw_252
-- words of class 5: zw_201 zw_203 zw_205 zw_207 zw_209 zw_211 zw_213
-- words of class 6: zw_275 zw_277 zw_279
-- words of class 7: zw_268
-- words of class 8: zw_298 zw_300 zw_302 zw_304 zw_306 zw_308 zw_310 zw_312
-- words of class 9: zw_328 zw_330
-- words of class 10: zw_981 zw_983 zw_985 zw_987 zw_989 zw_991 zw_993 zw_995 zw_997 zw_999 zw_1001 zw_1003 zw_1005 zw_1007 zw_1009 zw_1011 zw_1013 zw_1015 zw_1017 zw_1019 zw_1021 zw_1023 zw_1025 zw_1027 zw_1029 zw_1031 zw_1033 zw_1035 zw_1037 zw_1039 zw_1041 zw_1043 zw_1045 zw_1047 zw_1049 zw_1051 zw_1053 zw_1055 zw_1057 zw_1059 zw_1061
