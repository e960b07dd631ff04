section
def RC0 : String := "FigureCaller"
def TC0 : u_T := fun k => match k with
  | 0 => ("FigureCaller", "text", "LFigureCaller$Text;", true)
  | 1 => ("FigureCaller", "book", "LFigureCaller$Book;", true)
  | 2 => ("FigureCaller", "reader", "LFigureCaller$Reader;", true)
  | 3 => ("FigureCaller", "dancing", "LFigureCaller$Dancing;", true)
  | 4 => ("FigureCaller", "wayHome", "LFigureCaller$WayHome;", true)
  | 5 => ("FigureCaller", "journal", "[LFigureCaller$Track;", true)
  | 6 => ("FigureCaller", "trial", "LFigureCaller$Track;", true)
  | 7 => ("FigureCaller", "otherTrial", "LFigureCaller$Track;", true)
  | 8 => ("FigureCaller", "places", "[I", true)
  | 9 => ("FigureCaller", "start", "[I", true)
  | 10 => ("FigureCaller", "danced", "I", false)
  | 11 => ("FigureCaller", "latestFault", "I", false)
  | _ => ("FigureCaller", "latestClash", "I", false)
def yC0 : Nat → FieldType := fun k => match k with
  | 0 => .object "FigureCaller$Text"
  | 1 => .object "FigureCaller$Book"
  | 2 => .object "FigureCaller$Reader"
  | 3 => .object "FigureCaller$Dancing"
  | 4 => .object "FigureCaller$WayHome"
  | 5 => .array (.object "FigureCaller$Track")
  | 6 => .object "FigureCaller$Track"
  | 7 => .object "FigureCaller$Track"
  | 8 => .array (.int)
  | 9 => .array (.int)
  | 10 => .int
  | 11 => .int
  | _ => .int
theorem nC0 : ∀ a, a < 13 → ∀ b, b < 13 → a ≠ b → (TC0 a).2.1 ≠ (TC0 b).2.1 := by decide +kernel
theorem oC0 : ∀ k, k < 13 → parseFieldDescriptor (TC0 k).2.2.1 = some (yC0 k) := by decide +kernel
def RC1 : String := "FigureCaller$Text"
def TC1 : u_T := fun k => match k with
  | 0 => ("FigureCaller$Text", "characters", "[C", true)
  | _ => ("FigureCaller$Text", "length", "I", false)
def yC1 : Nat → FieldType := fun k => match k with
  | 0 => .array (.char)
  | _ => .int
theorem nC1 : ∀ a, a < 2 → ∀ b, b < 2 → a ≠ b → (TC1 a).2.1 ≠ (TC1 b).2.1 := by decide +kernel
theorem oC1 : ∀ k, k < 2 → parseFieldDescriptor (TC1 k).2.2.1 = some (yC1 k) := by decide +kernel
def RC2 : String := "FigureCaller$Book"
def TC2 : u_T := fun k => match k with
  | 0 => ("FigureCaller$Book", "figures", "[LFigureCaller$Figure;", true)
  | 1 => ("FigureCaller$Book", "selectors", "[I", true)
  | 2 => ("FigureCaller$Book", "atoms", "[I", true)
  | 3 => ("FigureCaller$Book", "count", "I", false)
  | 4 => ("FigureCaller$Book", "keptParts", "I", false)
  | _ => ("FigureCaller$Book", "partCount", "I", false)
def yC2 : Nat → FieldType := fun k => match k with
  | 0 => .array (.object "FigureCaller$Figure")
  | 1 => .array (.int)
  | 2 => .array (.int)
  | 3 => .int
  | 4 => .int
  | _ => .int
theorem nC2 : ∀ a, a < 6 → ∀ b, b < 6 → a ≠ b → (TC2 a).2.1 ≠ (TC2 b).2.1 := by decide +kernel
theorem oC2 : ∀ k, k < 6 → parseFieldDescriptor (TC2 k).2.2.1 = some (yC2 k) := by decide +kernel
def RC3 : String := "FigureCaller$Figure"
def TC3 : u_T := fun k => match k with
  | 0 => ("FigureCaller$Figure", "firstParts", "[I", true)
  | 1 => ("FigureCaller$Figure", "endParts", "[I", true)
  | 2 => ("FigureCaller$Figure", "takenAt", "[I", true)
  | 3 => ("FigureCaller$Figure", "name", "J", false)
  | 4 => ("FigureCaller$Figure", "beatCount", "I", false)
  | 5 => ("FigureCaller$Figure", "depth", "I", false)
  | _ => ("FigureCaller$Figure", "allowed", "Z", false)
def yC3 : Nat → FieldType := fun k => match k with
  | 0 => .array (.int)
  | 1 => .array (.int)
  | 2 => .array (.int)
  | 3 => .long
  | 4 => .int
  | 5 => .int
  | _ => .boolean
theorem nC3 : ∀ a, a < 7 → ∀ b, b < 7 → a ≠ b → (TC3 a).2.1 ≠ (TC3 b).2.1 := by decide +kernel
theorem oC3 : ∀ k, k < 7 → parseFieldDescriptor (TC3 k).2.2.1 = some (yC3 k) := by decide +kernel
def RC4 : String := "FigureCaller$Reader"
def TC4 : u_T := fun k => match k with
  | 0 => ("FigureCaller$Reader", "text", "LFigureCaller$Text;", true)
  | 1 => ("FigureCaller$Reader", "book", "LFigureCaller$Book;", true)
  | 2 => ("FigureCaller$Reader", "tokens", "LFigureCaller$Tokens;", true)
  | 3 => ("FigureCaller$Reader", "times", "[I", true)
  | 4 => ("FigureCaller$Reader", "openedAt", "[I", true)
  | 5 => ("FigureCaller$Reader", "draft", "LFigureCaller$Figure;", false)
  | 6 => ("FigureCaller$Reader", "open", "I", false)
  | 7 => ("FigureCaller$Reader", "expected", "I", false)
  | 8 => ("FigureCaller$Reader", "beatStart", "I", false)
  | _ => ("FigureCaller$Reader", "selector", "I", false)
def yC4 : Nat → FieldType := fun k => match k with
  | 0 => .object "FigureCaller$Text"
  | 1 => .object "FigureCaller$Book"
  | 2 => .object "FigureCaller$Tokens"
  | 3 => .array (.int)
  | 4 => .array (.int)
  | 5 => .object "FigureCaller$Figure"
  | 6 => .int
  | 7 => .int
  | 8 => .int
  | _ => .int
theorem nC4 : ∀ a, a < 10 → ∀ b, b < 10 → a ≠ b → (TC4 a).2.1 ≠ (TC4 b).2.1 := by decide +kernel
theorem oC4 : ∀ k, k < 10 → parseFieldDescriptor (TC4 k).2.2.1 = some (yC4 k) := by decide +kernel
def RC5 : String := "FigureCaller$Tokens"
def TC5 : u_T := fun k => match k with
  | 0 => ("FigureCaller$Tokens", "text", "LFigureCaller$Text;", true)
  | 1 => ("FigureCaller$Tokens", "kind", "I", false)
  | 2 => ("FigureCaller$Tokens", "start", "I", false)
  | 3 => ("FigureCaller$Tokens", "end", "I", false)
  | 4 => ("FigureCaller$Tokens", "word", "J", false)
  | 5 => ("FigureCaller$Tokens", "digit", "I", false)
  | _ => ("FigureCaller$Tokens", "sign", "C", false)
def yC5 : Nat → FieldType := fun k => match k with
  | 0 => .object "FigureCaller$Text"
  | 1 => .int
  | 2 => .int
  | 3 => .int
  | 4 => .long
  | 5 => .int
  | _ => .char
theorem nC5 : ∀ a, a < 7 → ∀ b, b < 7 → a ≠ b → (TC5 a).2.1 ≠ (TC5 b).2.1 := by decide +kernel
theorem oC5 : ∀ k, k < 7 → parseFieldDescriptor (TC5 k).2.2.1 = some (yC5 k) := by decide +kernel
def RC6 : String := "FigureCaller$Dancing"
def TC6 : u_T := fun k => match k with
  | 0 => ("FigureCaller$Dancing", "book", "LFigureCaller$Book;", true)
  | 1 => ("FigureCaller$Dancing", "selection", "LFigureCaller$Selection;", true)
  | _ => ("FigureCaller$Dancing", "atoms", "[I", true)
def yC6 : Nat → FieldType := fun k => match k with
  | 0 => .object "FigureCaller$Book"
  | 1 => .object "FigureCaller$Selection"
  | _ => .array (.int)
theorem nC6 : ∀ a, a < 3 → ∀ b, b < 3 → a ≠ b → (TC6 a).2.1 ≠ (TC6 b).2.1 := by decide +kernel
theorem oC6 : ∀ k, k < 3 → parseFieldDescriptor (TC6 k).2.2.1 = some (yC6 k) := by decide +kernel
def RC7 : String := "FigureCaller$Selection"
def TC7 : u_T := fun k => match k with
  | _ => ("FigureCaller$Selection", "distances", "[I", true)
def yC7 : Nat → FieldType := fun k => match k with
  | _ => .array (.int)
theorem nC7 : ∀ a, a < 1 → ∀ b, b < 1 → a ≠ b → (TC7 a).2.1 ≠ (TC7 b).2.1 := by decide +kernel
theorem oC7 : ∀ k, k < 1 → parseFieldDescriptor (TC7 k).2.2.1 = some (yC7 k) := by decide +kernel
def RC8 : String := "FigureCaller$WayHome"
def TC8 : u_T := fun k => match k with
  | 0 => ("FigureCaller$WayHome", "book", "LFigureCaller$Book;", true)
  | 1 => ("FigureCaller$WayHome", "dancing", "LFigureCaller$Dancing;", true)
  | 2 => ("FigureCaller$WayHome", "rows", "[I", true)
  | 3 => ("FigureCaller$WayHome", "parents", "[I", true)
  | 4 => ("FigureCaller$WayHome", "lastCalls", "[I", true)
  | 5 => ("FigureCaller$WayHome", "calls", "[I", true)
  | 6 => ("FigureCaller$WayHome", "nodes", "I", false)
  | _ => ("FigureCaller$WayHome", "found", "I", false)
def yC8 : Nat → FieldType := fun k => match k with
  | 0 => .object "FigureCaller$Book"
  | 1 => .object "FigureCaller$Dancing"
  | 2 => .array (.int)
  | 3 => .array (.int)
  | 4 => .array (.int)
  | 5 => .array (.int)
  | 6 => .int
  | _ => .int
theorem nC8 : ∀ a, a < 8 → ∀ b, b < 8 → a ≠ b → (TC8 a).2.1 ≠ (TC8 b).2.1 := by decide +kernel
theorem oC8 : ∀ k, k < 8 → parseFieldDescriptor (TC8 k).2.2.1 = some (yC8 k) := by decide +kernel
def RC9 : String := "FigureCaller$Track"
def TC9 : u_T := fun k => match k with
  | 0 => ("FigureCaller$Track", "rows", "[I", true)
  | _ => ("FigureCaller$Track", "beatCount", "I", false)
def yC9 : Nat → FieldType := fun k => match k with
  | 0 => .array (.int)
  | _ => .int
theorem nC9 : ∀ a, a < 2 → ∀ b, b < 2 → a ≠ b → (TC9 a).2.1 ≠ (TC9 b).2.1 := by decide +kernel
theorem oC9 : ∀ k, k < 2 → parseFieldDescriptor (TC9 k).2.2.1 = some (yC9 k) := by decide +kernel
def RC10 : String := "FigureCallerModel"
def TC10 : u_T := fun k => match k with
  | 0 => ("FigureCallerModel", "code", "I", false)
  | 1 => ("FigureCallerModel", "typed", "I", false)
  | 2 => ("FigureCallerModel", "text", "[C", true)
  | 3 => ("FigureCallerModel", "fault", "I", false)
  | 4 => ("FigureCallerModel", "kind", "I", false)
  | 5 => ("FigureCallerModel", "begin", "I", false)
  | 6 => ("FigureCallerModel", "end", "I", false)
  | 7 => ("FigureCallerModel", "word", "J", false)
  | 8 => ("FigureCallerModel", "number", "I", false)
  | 9 => ("FigureCallerModel", "calls", "I", false)
  | 10 => ("FigureCallerModel", "names", "[J", true)
  | 11 => ("FigureCallerModel", "counts", "[I", true)
  | 12 => ("FigureCallerModel", "depths", "[I", true)
  | 13 => ("FigureCallerModel", "taken", "[I", true)
  | 14 => ("FigureCallerModel", "partFrom", "[I", true)
  | 15 => ("FigureCallerModel", "partTo", "[I", true)
  | 16 => ("FigureCallerModel", "parts", "I", false)
  | 17 => ("FigureCallerModel", "selectors", "[I", true)
  | 18 => ("FigureCallerModel", "atoms", "[I", true)
  | 19 => ("FigureCallerModel", "open", "I", false)
  | 20 => ("FigureCallerModel", "times", "[I", true)
  | 21 => ("FigureCallerModel", "opened", "[I", true)
  | 22 => ("FigureCallerModel", "x", "[I", true)
  | 23 => ("FigureCallerModel", "y", "[I", true)
  | 24 => ("FigureCallerModel", "f", "[I", true)
  | 25 => ("FigureCallerModel", "atX", "[I", true)
  | 26 => ("FigureCallerModel", "atY", "[I", true)
  | 27 => ("FigureCallerModel", "atF", "[I", true)
  | 28 => ("FigureCallerModel", "beat", "I", false)
  | 29 => ("FigureCallerModel", "failed", "I", false)
  | 30 => ("FigureCallerModel", "clash", "I", false)
  | 31 => ("FigureCallerModel", "danced", "I", false)
  | 32 => ("FigureCallerModel", "which", "[I", true)
  | 33 => ("FigureCallerModel", "backs", "[Z", true)
  | 34 => ("FigureCallerModel", "before", "[I", true)
  | 35 => ("FigureCallerModel", "allowed", "[Z", true)
  | 36 => ("FigureCallerModel", "found", "I", false)
  | 37 => ("FigureCallerModel", "way", "[I", true)
  | 38 => ("FigureCallerModel", "trial", "[I", true)
  | 39 => ("FigureCallerModel", "steps", "[I", true)
  | _ => ("FigureCallerModel", "kept", "[I", true)
def yC10 : Nat → FieldType := fun k => match k with
  | 0 => .int
  | 1 => .int
  | 2 => .array (.char)
  | 3 => .int
  | 4 => .int
  | 5 => .int
  | 6 => .int
  | 7 => .long
  | 8 => .int
  | 9 => .int
  | 10 => .array (.long)
  | 11 => .array (.int)
  | 12 => .array (.int)
  | 13 => .array (.int)
  | 14 => .array (.int)
  | 15 => .array (.int)
  | 16 => .int
  | 17 => .array (.int)
  | 18 => .array (.int)
  | 19 => .int
  | 20 => .array (.int)
  | 21 => .array (.int)
  | 22 => .array (.int)
  | 23 => .array (.int)
  | 24 => .array (.int)
  | 25 => .array (.int)
  | 26 => .array (.int)
  | 27 => .array (.int)
  | 28 => .int
  | 29 => .int
  | 30 => .int
  | 31 => .int
  | 32 => .array (.int)
  | 33 => .array (.boolean)
  | 34 => .array (.int)
  | 35 => .array (.boolean)
  | 36 => .int
  | 37 => .array (.int)
  | 38 => .array (.int)
  | 39 => .array (.int)
  | _ => .array (.int)
theorem nC10 : ∀ a, a < 41 → ∀ b, b < 41 → a ≠ b → (TC10 a).2.1 ≠ (TC10 b).2.1 := by decide +kernel
theorem oC10 : ∀ k, k < 41 → parseFieldDescriptor (TC10 k).2.2.1 = some (yC10 k) := by decide +kernel
def zCL : List vw_C := [(RC0, TC0, 13), (RC1, TC1, 2), (RC2, TC2, 6), (RC3, TC3, 7), (RC4, TC4, 10), (RC5, TC5, 7), (RC6, TC6, 3), (RC7, TC7, 1), (RC8, TC8, 8), (RC9, TC9, 2), (RC10, TC10, 41)]
def dC0 : List Value := [.null, .null, .null, .null, .null, .null, .null, .null, .null, .null, .int 0, .int 0, .int 0]
def dC1 : List Value := [.null, .int 0]
def dC2 : List Value := [.null, .null, .null, .int 0, .int 0, .int 0]
def dC3 : List Value := [.null, .null, .null, .long 0, .int 0, .int 0, .int 0]
def dC4 : List Value := [.null, .null, .null, .null, .null, .null, .int 0, .int 0, .int 0, .int 0]
def dC5 : List Value := [.null, .int 0, .int 0, .int 0, .long 0, .int 0, .int 0]
def dC6 : List Value := [.null, .null, .null]
def dC7 : List Value := [.null]
def dC8 : List Value := [.null, .null, .null, .null, .null, .null, .int 0, .int 0]
def dC9 : List Value := [.null, .int 0]
def dC10 : List Value := [.int 0, .int 0, .null, .int 0, .int 0, .int 0, .int 0, .long 0, .int 0, .int 0, .null, .null, .null, .null, .null, .null, .int 0, .null, .null, .int 0, .null, .null, .null, .null, .null, .null, .null, .null, .int 0, .int 0, .int 0, .int 0, .null, .null, .null, .null, .int 0, .null, .null, .null, .null]
def zDF : Nat → List Value := fun k => match k with
  | 0 => dC0
  | 1 => dC1
  | 2 => dC2
  | 3 => dC3
  | 4 => dC4
  | 5 => dC5
  | 6 => dC6
  | 7 => dC7
  | 8 => dC8
  | 9 => dC9
  | 10 => dC10
  | _ => []
theorem dfC0 : ∀ j, j < 13 → ∃ ty, parseFieldDescriptor (TC0 j).2.2.1 = some ty ∧ (dC0)[j]? = some (defaultValue ty) := fun j hj => ⟨yC0 j, oC0 j hj, (by decide +kernel : ∀ j, j < 13 → (dC0)[j]? = some (defaultValue (yC0 j))) j hj⟩
theorem dfC1 : ∀ j, j < 2 → ∃ ty, parseFieldDescriptor (TC1 j).2.2.1 = some ty ∧ (dC1)[j]? = some (defaultValue ty) := fun j hj => ⟨yC1 j, oC1 j hj, (by decide +kernel : ∀ j, j < 2 → (dC1)[j]? = some (defaultValue (yC1 j))) j hj⟩
theorem dfC2 : ∀ j, j < 6 → ∃ ty, parseFieldDescriptor (TC2 j).2.2.1 = some ty ∧ (dC2)[j]? = some (defaultValue ty) := fun j hj => ⟨yC2 j, oC2 j hj, (by decide +kernel : ∀ j, j < 6 → (dC2)[j]? = some (defaultValue (yC2 j))) j hj⟩
theorem dfC3 : ∀ j, j < 7 → ∃ ty, parseFieldDescriptor (TC3 j).2.2.1 = some ty ∧ (dC3)[j]? = some (defaultValue ty) := fun j hj => ⟨yC3 j, oC3 j hj, (by decide +kernel : ∀ j, j < 7 → (dC3)[j]? = some (defaultValue (yC3 j))) j hj⟩
theorem dfC4 : ∀ j, j < 10 → ∃ ty, parseFieldDescriptor (TC4 j).2.2.1 = some ty ∧ (dC4)[j]? = some (defaultValue ty) := fun j hj => ⟨yC4 j, oC4 j hj, (by decide +kernel : ∀ j, j < 10 → (dC4)[j]? = some (defaultValue (yC4 j))) j hj⟩
theorem dfC5 : ∀ j, j < 7 → ∃ ty, parseFieldDescriptor (TC5 j).2.2.1 = some ty ∧ (dC5)[j]? = some (defaultValue ty) := fun j hj => ⟨yC5 j, oC5 j hj, (by decide +kernel : ∀ j, j < 7 → (dC5)[j]? = some (defaultValue (yC5 j))) j hj⟩
theorem dfC6 : ∀ j, j < 3 → ∃ ty, parseFieldDescriptor (TC6 j).2.2.1 = some ty ∧ (dC6)[j]? = some (defaultValue ty) := fun j hj => ⟨yC6 j, oC6 j hj, (by decide +kernel : ∀ j, j < 3 → (dC6)[j]? = some (defaultValue (yC6 j))) j hj⟩
theorem dfC7 : ∀ j, j < 1 → ∃ ty, parseFieldDescriptor (TC7 j).2.2.1 = some ty ∧ (dC7)[j]? = some (defaultValue ty) := fun j hj => ⟨yC7 j, oC7 j hj, (by decide +kernel : ∀ j, j < 1 → (dC7)[j]? = some (defaultValue (yC7 j))) j hj⟩
theorem dfC8 : ∀ j, j < 8 → ∃ ty, parseFieldDescriptor (TC8 j).2.2.1 = some ty ∧ (dC8)[j]? = some (defaultValue ty) := fun j hj => ⟨yC8 j, oC8 j hj, (by decide +kernel : ∀ j, j < 8 → (dC8)[j]? = some (defaultValue (yC8 j))) j hj⟩
theorem dfC9 : ∀ j, j < 2 → ∃ ty, parseFieldDescriptor (TC9 j).2.2.1 = some ty ∧ (dC9)[j]? = some (defaultValue ty) := fun j hj => ⟨yC9 j, oC9 j hj, (by decide +kernel : ∀ j, j < 2 → (dC9)[j]? = some (defaultValue (yC9 j))) j hj⟩
theorem dfC10 : ∀ j, j < 41 → ∃ ty, parseFieldDescriptor (TC10 j).2.2.1 = some ty ∧ (dC10)[j]? = some (defaultValue ty) := fun j hj => ⟨yC10 j, oC10 j hj, (by decide +kernel : ∀ j, j < 41 → (dC10)[j]? = some (defaultValue (yC10 j))) j hj⟩
def zWSL : List Jvm.Cond := lw_tbl.filter zgb
-- words of class 0: zw_353 zw_355 zw_357 zw_359 zw_361 zw_363 zw_365 zw_367 zw_369 zw_371 zw_373 zw_375 zw_377
-- words of class 1: zw_103 zw_105
-- words of class 2: zw_165 zw_167 zw_169 zw_171 zw_173 zw_175
-- words of class 3: zw_138 zw_140 zw_142 zw_144 zw_146 zw_148 zw_150
-- words of class 4: zw_234 zw_236 zw_238 zw_240 zw_242 zw_244 zw_246 zw_248 zw_250 zw_252
-- words of class 5: zw_201 zw_203 zw_205 zw_207 zw_209 zw_211 zw_213
-- words of class 6: zw_275 zw_277 zw_279
-- words of class 7: zw_268
-- words of class 8: zw_298 zw_300 zw_302 zw_304 zw_306 zw_308 zw_310 zw_312
-- words of class 9: zw_328 zw_330
-- words of class 10: zw_981 zw_983 zw_985 zw_987 zw_989 zw_991 zw_993 zw_995 zw_997 zw_999 zw_1001 zw_1003 zw_1005 zw_1007 zw_1009 zw_1011 zw_1013 zw_1015 zw_1017 zw_1019 zw_1021 zw_1023 zw_1025 zw_1027 zw_1029 zw_1031 zw_1033 zw_1035 zw_1037 zw_1039 zw_1041 zw_1043 zw_1045 zw_1047 zw_1049 zw_1051 zw_1053 zw_1055 zw_1057 zw_1059 zw_1061
end
section
theorem zin_1 {c : Jvm.Cond} (h : c ∈ tables_1_1) (g : zgb c = true) : c ∈ zWSL := List.mem_filter.mpr ⟨show c ∈ k2_sels lw_privs ++ (tables_1_1 ++ (tables_1_2 ++ (tables_1_3 ++ (tables_1_4 ++ (tables_1_5 ++ tables_1_6))))) from List.mem_append_right _ (List.mem_append_left _ h), g⟩
theorem zin_2 {c : Jvm.Cond} (h : c ∈ tables_1_2) (g : zgb c = true) : c ∈ zWSL := List.mem_filter.mpr ⟨show c ∈ k2_sels lw_privs ++ (tables_1_1 ++ (tables_1_2 ++ (tables_1_3 ++ (tables_1_4 ++ (tables_1_5 ++ tables_1_6))))) from List.mem_append_right _ (List.mem_append_right _ (List.mem_append_left _ h)), g⟩
theorem zin_3 {c : Jvm.Cond} (h : c ∈ tables_1_3) (g : zgb c = true) : c ∈ zWSL := List.mem_filter.mpr ⟨show c ∈ k2_sels lw_privs ++ (tables_1_1 ++ (tables_1_2 ++ (tables_1_3 ++ (tables_1_4 ++ (tables_1_5 ++ tables_1_6))))) from List.mem_append_right _ (List.mem_append_right _ (List.mem_append_right _ (List.mem_append_left _ h))), g⟩
theorem zin_4 {c : Jvm.Cond} (h : c ∈ tables_1_4) (g : zgb c = true) : c ∈ zWSL := List.mem_filter.mpr ⟨show c ∈ k2_sels lw_privs ++ (tables_1_1 ++ (tables_1_2 ++ (tables_1_3 ++ (tables_1_4 ++ (tables_1_5 ++ tables_1_6))))) from List.mem_append_right _ (List.mem_append_right _ (List.mem_append_right _ (List.mem_append_right _ (List.mem_append_left _ h)))), g⟩
theorem zin_5 {c : Jvm.Cond} (h : c ∈ tables_1_5) (g : zgb c = true) : c ∈ zWSL := List.mem_filter.mpr ⟨show c ∈ k2_sels lw_privs ++ (tables_1_1 ++ (tables_1_2 ++ (tables_1_3 ++ (tables_1_4 ++ (tables_1_5 ++ tables_1_6))))) from List.mem_append_right _ (List.mem_append_right _ (List.mem_append_right _ (List.mem_append_right _ (List.mem_append_right _ (List.mem_append_left _ h))))), g⟩
theorem zin_6 {c : Jvm.Cond} (h : c ∈ tables_1_6) (g : zgb c = true) : c ∈ zWSL := List.mem_filter.mpr ⟨show c ∈ k2_sels lw_privs ++ (tables_1_1 ++ (tables_1_2 ++ (tables_1_3 ++ (tables_1_4 ++ (tables_1_5 ++ tables_1_6))))) from List.mem_append_right _ (List.mem_append_right _ (List.mem_append_right _ (List.mem_append_right _ (List.mem_append_right _ (List.mem_append_right _ h))))), g⟩
theorem zw_0 : (Jvm.Cond.selects "FigureCaller$Text" (⟨"FigureCaller$Text", "fits", "(J)Z"⟩ : Jvm.MethodName) (⟨"FigureCaller$Text", "fits", "(J)Z"⟩ : Jvm.MethodName)) ∈ zWSL := List.mem_filter.mpr ⟨List.mem_of_getElem? (i := 0) (by decide +kernel), by decide⟩
theorem zw_1 : (Jvm.Cond.selects "FigureCaller$WayHome" (⟨"FigureCaller$WayHome", "branches", "(IILFigureCaller$Track;)Z"⟩ : Jvm.MethodName) (⟨"FigureCaller$WayHome", "branches", "(IILFigureCaller$Track;)Z"⟩ : Jvm.MethodName)) ∈ zWSL := List.mem_filter.mpr ⟨List.mem_of_getElem? (i := 1) (by decide +kernel), by decide⟩
theorem zw_2 : (Jvm.Cond.selects "FigureCaller$Dancing" (⟨"FigureCaller$Dancing", "giveAtoms", "(LFigureCaller$Track;LFigureCaller$Figure;II)V"⟩ : Jvm.MethodName) (⟨"FigureCaller$Dancing", "giveAtoms", "(LFigureCaller$Track;LFigureCaller$Figure;II)V"⟩ : Jvm.MethodName)) ∈ zWSL := List.mem_filter.mpr ⟨List.mem_of_getElem? (i := 2) (by decide +kernel), by decide⟩
theorem zw_3 : (Jvm.Cond.selects "FigureCaller$Selection" (⟨"FigureCaller$Selection", "centres", "([II)I"⟩ : Jvm.MethodName) (⟨"FigureCaller$Selection", "centres", "([II)I"⟩ : Jvm.MethodName)) ∈ zWSL := List.mem_filter.mpr ⟨List.mem_of_getElem? (i := 3) (by decide +kernel), by decide⟩
theorem zw_4 : (Jvm.Cond.selects "FigureCaller$Selection" (⟨"FigureCaller$Selection", "measure", "([II)V"⟩ : Jvm.MethodName) (⟨"FigureCaller$Selection", "measure", "([II)V"⟩ : Jvm.MethodName)) ∈ zWSL := List.mem_filter.mpr ⟨List.mem_of_getElem? (i := 4) (by decide +kernel), by decide⟩
theorem zw_5 : (Jvm.Cond.selects "FigureCaller$Dancing" (⟨"FigureCaller$Dancing", "exchangeAtoms", "()V"⟩ : Jvm.MethodName) (⟨"FigureCaller$Dancing", "exchangeAtoms", "()V"⟩ : Jvm.MethodName)) ∈ zWSL := List.mem_filter.mpr ⟨List.mem_of_getElem? (i := 5) (by decide +kernel), by decide⟩
theorem zw_6 : (Jvm.Cond.selects "FigureCaller$Dancing" (⟨"FigureCaller$Dancing", "step", "([II)I"⟩ : Jvm.MethodName) (⟨"FigureCaller$Dancing", "step", "([II)I"⟩ : Jvm.MethodName)) ∈ zWSL := List.mem_filter.mpr ⟨List.mem_of_getElem? (i := 6) (by decide +kernel), by decide⟩
theorem zw_7 : (Jvm.Cond.selects "FigureCaller$WayHome" (⟨"FigureCaller$WayHome", "recall", "(III)V"⟩ : Jvm.MethodName) (⟨"FigureCaller$WayHome", "recall", "(III)V"⟩ : Jvm.MethodName)) ∈ zWSL := List.mem_filter.mpr ⟨List.mem_of_getElem? (i := 7) (by decide +kernel), by decide⟩
theorem zw_8 : (Jvm.Cond.selects "FigureCaller$WayHome" (⟨"FigureCaller$WayHome", "addNode", "(IILFigureCaller$Track;)V"⟩ : Jvm.MethodName) (⟨"FigureCaller$WayHome", "addNode", "(IILFigureCaller$Track;)V"⟩ : Jvm.MethodName)) ∈ zWSL := List.mem_filter.mpr ⟨List.mem_of_getElem? (i := 8) (by decide +kernel), by decide⟩
theorem zw_9 : (Jvm.Cond.selects "FigureCaller$Tokens" (⟨"FigureCaller$Tokens", "isBetween", "(CC)Z"⟩ : Jvm.MethodName) (⟨"FigureCaller$Tokens", "isBetween", "(CC)Z"⟩ : Jvm.MethodName)) ∈ zWSL := List.mem_filter.mpr ⟨List.mem_of_getElem? (i := 9) (by decide +kernel), by decide⟩
theorem zw_10 : (Jvm.Cond.selects "FigureCaller$Tokens" (⟨"FigureCaller$Tokens", "passWord", "()V"⟩ : Jvm.MethodName) (⟨"FigureCaller$Tokens", "passWord", "()V"⟩ : Jvm.MethodName)) ∈ zWSL := List.mem_filter.mpr ⟨List.mem_of_getElem? (i := 10) (by decide +kernel), by decide⟩
theorem zw_11 : (Jvm.Cond.selects "FigureCaller$Tokens" (⟨"FigureCaller$Tokens", "passNumber", "()V"⟩ : Jvm.MethodName) (⟨"FigureCaller$Tokens", "passNumber", "()V"⟩ : Jvm.MethodName)) ∈ zWSL := List.mem_filter.mpr ⟨List.mem_of_getElem? (i := 11) (by decide +kernel), by decide⟩
theorem zw_12 : (Jvm.Cond.selects "FigureCaller$Reader" (⟨"FigureCaller$Reader", "takes", "()Z"⟩ : Jvm.MethodName) (⟨"FigureCaller$Reader", "takes", "()Z"⟩ : Jvm.MethodName)) ∈ zWSL := List.mem_filter.mpr ⟨List.mem_of_getElem? (i := 12) (by decide +kernel), by decide⟩
theorem zw_13 : (Jvm.Cond.selects "FigureCaller$Reader" (⟨"FigureCaller$Reader", "takesName", "()Z"⟩ : Jvm.MethodName) (⟨"FigureCaller$Reader", "takesName", "()Z"⟩ : Jvm.MethodName)) ∈ zWSL := List.mem_filter.mpr ⟨List.mem_of_getElem? (i := 13) (by decide +kernel), by decide⟩
theorem zw_14 : (Jvm.Cond.selects "FigureCaller$Reader" (⟨"FigureCaller$Reader", "takesSign", "(CI)Z"⟩ : Jvm.MethodName) (⟨"FigureCaller$Reader", "takesSign", "(CI)Z"⟩ : Jvm.MethodName)) ∈ zWSL := List.mem_filter.mpr ⟨List.mem_of_getElem? (i := 14) (by decide +kernel), by decide⟩
theorem zw_15 : (Jvm.Cond.selects "FigureCaller$Reader" (⟨"FigureCaller$Reader", "takesStep", "()Z"⟩ : Jvm.MethodName) (⟨"FigureCaller$Reader", "takesStep", "()Z"⟩ : Jvm.MethodName)) ∈ zWSL := List.mem_filter.mpr ⟨List.mem_of_getElem? (i := 15) (by decide +kernel), by decide⟩
theorem zw_16 : (Jvm.Cond.selects "FigureCaller$Reader" (⟨"FigureCaller$Reader", "takesTimes", "()Z"⟩ : Jvm.MethodName) (⟨"FigureCaller$Reader", "takesTimes", "()Z"⟩ : Jvm.MethodName)) ∈ zWSL := List.mem_filter.mpr ⟨List.mem_of_getElem? (i := 16) (by decide +kernel), by decide⟩
theorem zw_17 : (Jvm.Cond.selects "FigureCaller$Reader" (⟨"FigureCaller$Reader", "takesOld", "()Z"⟩ : Jvm.MethodName) (⟨"FigureCaller$Reader", "takesOld", "()Z"⟩ : Jvm.MethodName)) ∈ zWSL := List.mem_filter.mpr ⟨List.mem_of_getElem? (i := 17) (by decide +kernel), by decide⟩
theorem zw_18 : (Jvm.Cond.selects "FigureCaller$Figure" (⟨"FigureCaller$Figure", "addBeat", "(III)V"⟩ : Jvm.MethodName) (⟨"FigureCaller$Figure", "addBeat", "(III)V"⟩ : Jvm.MethodName)) ∈ zWSL := List.mem_filter.mpr ⟨List.mem_of_getElem? (i := 18) (by decide +kernel), by decide⟩
theorem zw_19 : (Jvm.Cond.selects "FigureCaller$Reader" (⟨"FigureCaller$Reader", "takesSelector", "()Z"⟩ : Jvm.MethodName) (⟨"FigureCaller$Reader", "takesSelector", "()Z"⟩ : Jvm.MethodName)) ∈ zWSL := List.mem_filter.mpr ⟨List.mem_of_getElem? (i := 19) (by decide +kernel), by decide⟩
theorem zw_20 : (Jvm.Cond.selects "FigureCaller$Reader" (⟨"FigureCaller$Reader", "takesBracket", "()Z"⟩ : Jvm.MethodName) (⟨"FigureCaller$Reader", "takesBracket", "()Z"⟩ : Jvm.MethodName)) ∈ zWSL := List.mem_filter.mpr ⟨List.mem_of_getElem? (i := 20) (by decide +kernel), by decide⟩
theorem zw_21 : (Jvm.Cond.selects "FigureCaller$Reader" (⟨"FigureCaller$Reader", "takesAtom", "()Z"⟩ : Jvm.MethodName) (⟨"FigureCaller$Reader", "takesAtom", "()Z"⟩ : Jvm.MethodName)) ∈ zWSL := List.mem_filter.mpr ⟨List.mem_of_getElem? (i := 21) (by decide +kernel), by decide⟩
theorem zw_22 : (Jvm.Cond.selects "FigureCaller$Reader" (⟨"FigureCaller$Reader", "takesEndOfBeat", "()Z"⟩ : Jvm.MethodName) (⟨"FigureCaller$Reader", "takesEndOfBeat", "()Z"⟩ : Jvm.MethodName)) ∈ zWSL := List.mem_filter.mpr ⟨List.mem_of_getElem? (i := 22) (by decide +kernel), by decide⟩
theorem zw_23 : (Jvm.Cond.selects "FigureCaller$Reader" (⟨"FigureCaller$Reader", "takesEndOfStep", "()Z"⟩ : Jvm.MethodName) (⟨"FigureCaller$Reader", "takesEndOfStep", "()Z"⟩ : Jvm.MethodName)) ∈ zWSL := List.mem_filter.mpr ⟨List.mem_of_getElem? (i := 23) (by decide +kernel), by decide⟩
theorem zw_24 : (Jvm.Cond.selects "FigureCaller$Reader" (⟨"FigureCaller$Reader", "isWhole", "()Z"⟩ : Jvm.MethodName) (⟨"FigureCaller$Reader", "isWhole", "()Z"⟩ : Jvm.MethodName)) ∈ zWSL := List.mem_filter.mpr ⟨List.mem_of_getElem? (i := 24) (by decide +kernel), by decide⟩
theorem zw_26 : (Jvm.Cond.selects "FigureCaller" (⟨"FigureCaller", "checkCall", "(I)V"⟩ : Jvm.MethodName) (⟨"FigureCaller", "checkCall", "(I)V"⟩ : Jvm.MethodName)) ∈ zWSL := List.mem_filter.mpr ⟨List.mem_of_getElem? (i := 26) (by decide +kernel), by decide⟩
theorem zw_27 : (Jvm.Cond.selects "FigureCaller" (⟨"FigureCaller", "perform", "(IZ)I"⟩ : Jvm.MethodName) (⟨"FigureCaller", "perform", "(IZ)I"⟩ : Jvm.MethodName)) ∈ zWSL := List.mem_filter.mpr ⟨List.mem_of_getElem? (i := 27) (by decide +kernel), by decide⟩
theorem zw_28 : (Jvm.Cond.selects "FigureCallerModel" (⟨"FigureCallerModel", "read", "()I"⟩ : Jvm.MethodName) (⟨"FigureCallerModel", "read", "()I"⟩ : Jvm.MethodName)) ∈ zWSL := List.mem_filter.mpr ⟨List.mem_of_getElem? (i := 28) (by decide +kernel), by decide⟩
theorem zw_29 : (Jvm.Cond.selects "FigureCallerModel" (⟨"FigureCallerModel", "next", "()V"⟩ : Jvm.MethodName) (⟨"FigureCallerModel", "next", "()V"⟩ : Jvm.MethodName)) ∈ zWSL := List.mem_filter.mpr ⟨List.mem_of_getElem? (i := 29) (by decide +kernel), by decide⟩
theorem zw_30 : (Jvm.Cond.selects "FigureCallerModel" (⟨"FigureCallerModel", "see", "(I)C"⟩ : Jvm.MethodName) (⟨"FigureCallerModel", "see", "(I)C"⟩ : Jvm.MethodName)) ∈ zWSL := List.mem_filter.mpr ⟨List.mem_of_getElem? (i := 30) (by decide +kernel), by decide⟩
theorem zw_31 : (Jvm.Cond.selects "FigureCallerModel" (⟨"FigureCallerModel", "selector", "()I"⟩ : Jvm.MethodName) (⟨"FigureCallerModel", "selector", "()I"⟩ : Jvm.MethodName)) ∈ zWSL := List.mem_filter.mpr ⟨List.mem_of_getElem? (i := 31) (by decide +kernel), by decide⟩
theorem zw_32 : (Jvm.Cond.selects "FigureCallerModel" (⟨"FigureCallerModel", "atom", "()I"⟩ : Jvm.MethodName) (⟨"FigureCallerModel", "atom", "()I"⟩ : Jvm.MethodName)) ∈ zWSL := List.mem_filter.mpr ⟨List.mem_of_getElem? (i := 32) (by decide +kernel), by decide⟩
theorem zw_33 : (Jvm.Cond.selects "FigureCallerModel" (⟨"FigureCallerModel", "old", "()I"⟩ : Jvm.MethodName) (⟨"FigureCallerModel", "old", "()I"⟩ : Jvm.MethodName)) ∈ zWSL := List.mem_filter.mpr ⟨List.mem_of_getElem? (i := 33) (by decide +kernel), by decide⟩
theorem zw_34 : (Jvm.Cond.selects "FigureCallerModel" (⟨"FigureCallerModel", "passes", "(C)Z"⟩ : Jvm.MethodName) (⟨"FigureCallerModel", "passes", "(C)Z"⟩ : Jvm.MethodName)) ∈ zWSL := List.mem_filter.mpr ⟨List.mem_of_getElem? (i := 34) (by decide +kernel), by decide⟩
theorem zw_35 : (Jvm.Cond.selects "FigureCallerModel" (⟨"FigureCallerModel", "readStep", "()Z"⟩ : Jvm.MethodName) (⟨"FigureCallerModel", "readStep", "()Z"⟩ : Jvm.MethodName)) ∈ zWSL := List.mem_filter.mpr ⟨List.mem_of_getElem? (i := 35) (by decide +kernel), by decide⟩
theorem zw_36 : (Jvm.Cond.selects "FigureCallerModel" (⟨"FigureCallerModel", "readBeat", "()Z"⟩ : Jvm.MethodName) (⟨"FigureCallerModel", "readBeat", "()Z"⟩ : Jvm.MethodName)) ∈ zWSL := List.mem_filter.mpr ⟨List.mem_of_getElem? (i := 36) (by decide +kernel), by decide⟩
theorem zw_37 : (Jvm.Cond.selects "FigureCallerModel" (⟨"FigureCallerModel", "append", "(III)V"⟩ : Jvm.MethodName) (⟨"FigureCallerModel", "append", "(III)V"⟩ : Jvm.MethodName)) ∈ zWSL := List.mem_filter.mpr ⟨List.mem_of_getElem? (i := 37) (by decide +kernel), by decide⟩
theorem zw_38 : (Jvm.Cond.selects "FigureCallerModel" (⟨"FigureCallerModel", "appendOld", "(I)V"⟩ : Jvm.MethodName) (⟨"FigureCallerModel", "appendOld", "(I)V"⟩ : Jvm.MethodName)) ∈ zWSL := List.mem_filter.mpr ⟨List.mem_of_getElem? (i := 38) (by decide +kernel), by decide⟩
theorem zw_39 : (Jvm.Cond.selects "FigureCallerModel" (⟨"FigureCallerModel", "close", "()V"⟩ : Jvm.MethodName) (⟨"FigureCallerModel", "close", "()V"⟩ : Jvm.MethodName)) ∈ zWSL := List.mem_filter.mpr ⟨List.mem_of_getElem? (i := 39) (by decide +kernel), by decide⟩
theorem zw_40 : (Jvm.Cond.selects "FigureCallerModel" (⟨"FigureCallerModel", "isCall", "(I)Z"⟩ : Jvm.MethodName) (⟨"FigureCallerModel", "isCall", "(I)Z"⟩ : Jvm.MethodName)) ∈ zWSL := List.mem_filter.mpr ⟨List.mem_of_getElem? (i := 40) (by decide +kernel), by decide⟩
theorem zw_41 : (Jvm.Cond.selects "FigureCallerModel" (⟨"FigureCallerModel", "perform", "(IZ)I"⟩ : Jvm.MethodName) (⟨"FigureCallerModel", "perform", "(IZ)I"⟩ : Jvm.MethodName)) ∈ zWSL := List.mem_filter.mpr ⟨List.mem_of_getElem? (i := 41) (by decide +kernel), by decide⟩
theorem zw_42 : (Jvm.Cond.selects "FigureCallerModel" (⟨"FigureCallerModel", "place", "()V"⟩ : Jvm.MethodName) (⟨"FigureCallerModel", "place", "()V"⟩ : Jvm.MethodName)) ∈ zWSL := List.mem_filter.mpr ⟨List.mem_of_getElem? (i := 42) (by decide +kernel), by decide⟩
theorem zw_43 : (Jvm.Cond.selects "FigureCallerModel" (⟨"FigureCallerModel", "run", "(IZ)Z"⟩ : Jvm.MethodName) (⟨"FigureCallerModel", "run", "(IZ)Z"⟩ : Jvm.MethodName)) ∈ zWSL := List.mem_filter.mpr ⟨List.mem_of_getElem? (i := 43) (by decide +kernel), by decide⟩
theorem zw_44 : (Jvm.Cond.selects "FigureCallerModel" (⟨"FigureCallerModel", "move", "(III)V"⟩ : Jvm.MethodName) (⟨"FigureCallerModel", "move", "(III)V"⟩ : Jvm.MethodName)) ∈ zWSL := List.mem_filter.mpr ⟨List.mem_of_getElem? (i := 44) (by decide +kernel), by decide⟩
theorem zw_45 : (Jvm.Cond.selects "FigureCallerModel" (⟨"FigureCallerModel", "has", "(II)I"⟩ : Jvm.MethodName) (⟨"FigureCallerModel", "has", "(II)I"⟩ : Jvm.MethodName)) ∈ zWSL := List.mem_filter.mpr ⟨List.mem_of_getElem? (i := 45) (by decide +kernel), by decide⟩
theorem zw_46 : (Jvm.Cond.selects "FigureCallerModel" (⟨"FigureCallerModel", "centres", "(I)I"⟩ : Jvm.MethodName) (⟨"FigureCallerModel", "centres", "(I)I"⟩ : Jvm.MethodName)) ∈ zWSL := List.mem_filter.mpr ⟨List.mem_of_getElem? (i := 46) (by decide +kernel), by decide⟩
theorem zw_47 : (Jvm.Cond.selects "FigureCallerModel" (⟨"FigureCallerModel", "farness", "(II)J"⟩ : Jvm.MethodName) (⟨"FigureCallerModel", "farness", "(II)J"⟩ : Jvm.MethodName)) ∈ zWSL := List.mem_filter.mpr ⟨List.mem_of_getElem? (i := 47) (by decide +kernel), by decide⟩
theorem zw_48 : (Jvm.Cond.selects "FigureCallerModel" (⟨"FigureCallerModel", "alone", "(II)I"⟩ : Jvm.MethodName) (⟨"FigureCallerModel", "alone", "(II)I"⟩ : Jvm.MethodName)) ∈ zWSL := List.mem_filter.mpr ⟨List.mem_of_getElem? (i := 48) (by decide +kernel), by decide⟩
theorem zw_49 : (Jvm.Cond.selects "FigureCallerModel" (⟨"FigureCallerModel", "wrong", "(I)I"⟩ : Jvm.MethodName) (⟨"FigureCallerModel", "wrong", "(I)I"⟩ : Jvm.MethodName)) ∈ zWSL := List.mem_filter.mpr ⟨List.mem_of_getElem? (i := 49) (by decide +kernel), by decide⟩
theorem zw_50 : (Jvm.Cond.selects "FigureCallerModel" (⟨"FigureCallerModel", "isAt", "(II)Z"⟩ : Jvm.MethodName) (⟨"FigureCallerModel", "isAt", "(II)Z"⟩ : Jvm.MethodName)) ∈ zWSL := List.mem_filter.mpr ⟨List.mem_of_getElem? (i := 50) (by decide +kernel), by decide⟩
theorem zw_51 : (Jvm.Cond.selects "FigureCallerModel" (⟨"FigureCallerModel", "looks", "(III)Z"⟩ : Jvm.MethodName) (⟨"FigureCallerModel", "looks", "(III)Z"⟩ : Jvm.MethodName)) ∈ zWSL := List.mem_filter.mpr ⟨List.mem_of_getElem? (i := 51) (by decide +kernel), by decide⟩
theorem zw_52 : (Jvm.Cond.selects "FigureCallerModel" (⟨"FigureCallerModel", "stand", "(I)V"⟩ : Jvm.MethodName) (⟨"FigureCallerModel", "stand", "(I)V"⟩ : Jvm.MethodName)) ∈ zWSL := List.mem_filter.mpr ⟨List.mem_of_getElem? (i := 52) (by decide +kernel), by decide⟩
theorem zw_53 : (Jvm.Cond.selects "FigureCallerModel" (⟨"FigureCallerModel", "bring", "(II)V"⟩ : Jvm.MethodName) (⟨"FigureCallerModel", "bring", "(II)V"⟩ : Jvm.MethodName)) ∈ zWSL := List.mem_filter.mpr ⟨List.mem_of_getElem? (i := 53) (by decide +kernel), by decide⟩
theorem zw_54 : (Jvm.Cond.selects "FigureCallerModel" (⟨"FigureCallerModel", "isHome", "(I)Z"⟩ : Jvm.MethodName) (⟨"FigureCallerModel", "isHome", "(I)Z"⟩ : Jvm.MethodName)) ∈ zWSL := List.mem_filter.mpr ⟨List.mem_of_getElem? (i := 54) (by decide +kernel), by decide⟩
theorem zw_55 : (Jvm.Cond.selects "FigureCallerModel" (⟨"FigureCallerModel", "search", "(I)Z"⟩ : Jvm.MethodName) (⟨"FigureCallerModel", "search", "(I)Z"⟩ : Jvm.MethodName)) ∈ zWSL := List.mem_filter.mpr ⟨List.mem_of_getElem? (i := 55) (by decide +kernel), by decide⟩
theorem zw_56 : (Jvm.Cond.selects "FigureCallerModel" (⟨"FigureCallerModel", "from", "(I)I"⟩ : Jvm.MethodName) (⟨"FigureCallerModel", "from", "(I)I"⟩ : Jvm.MethodName)) ∈ zWSL := List.mem_filter.mpr ⟨List.mem_of_getElem? (i := 56) (by decide +kernel), by decide⟩
theorem zw_57 : (Jvm.Cond.selects "FigureCallerModel" (⟨"FigureCallerModel", "tries", "(I)Z"⟩ : Jvm.MethodName) (⟨"FigureCallerModel", "tries", "(I)Z"⟩ : Jvm.MethodName)) ∈ zWSL := List.mem_filter.mpr ⟨List.mem_of_getElem? (i := 57) (by decide +kernel), by decide⟩
theorem zw_58 : (Jvm.Cond.selects "FigureCallerModel" (⟨"FigureCallerModel", "turned", "(I)V"⟩ : Jvm.MethodName) (⟨"FigureCallerModel", "turned", "(I)V"⟩ : Jvm.MethodName)) ∈ zWSL := List.mem_filter.mpr ⟨List.mem_of_getElem? (i := 58) (by decide +kernel), by decide⟩
theorem zw_59 : (Jvm.Cond.initialized "FigureCallerLaw") ∈ zWSL := zin_1 (List.mem_of_getElem? (i := 0) rfl) rfl
theorem zw_60 : (Jvm.Cond.initialized "FigureCaller") ∈ zWSL := zin_1 (List.mem_of_getElem? (i := 1) rfl) rfl
theorem zw_61 : (Jvm.Cond.initialized "FigureCaller$Text") ∈ zWSL := zin_1 (List.mem_of_getElem? (i := 2) rfl) rfl
theorem zw_62 : (Jvm.Cond.initialized "FigureCaller$Book") ∈ zWSL := zin_1 (List.mem_of_getElem? (i := 3) rfl) rfl
theorem zw_63 : (Jvm.Cond.initialized "FigureCaller$Figure") ∈ zWSL := zin_1 (List.mem_of_getElem? (i := 4) rfl) rfl
theorem zw_64 : (Jvm.Cond.initialized "FigureCaller$Reader") ∈ zWSL := zin_1 (List.mem_of_getElem? (i := 5) rfl) rfl
theorem zw_65 : (Jvm.Cond.initialized "FigureCaller$Tokens") ∈ zWSL := zin_1 (List.mem_of_getElem? (i := 6) rfl) rfl
theorem zw_66 : (Jvm.Cond.initialized "FigureCaller$Dancing") ∈ zWSL := zin_1 (List.mem_of_getElem? (i := 7) rfl) rfl
theorem zw_67 : (Jvm.Cond.initialized "FigureCaller$Selection") ∈ zWSL := zin_1 (List.mem_of_getElem? (i := 8) rfl) rfl
theorem zw_68 : (Jvm.Cond.initialized "FigureCaller$WayHome") ∈ zWSL := zin_1 (List.mem_of_getElem? (i := 9) rfl) rfl
theorem zw_69 : (Jvm.Cond.initialized "FigureCaller$Track") ∈ zWSL := zin_1 (List.mem_of_getElem? (i := 10) rfl) rfl
theorem zw_70 : (Jvm.Cond.initialized "FigureCallerModel") ∈ zWSL := zin_1 (List.mem_of_getElem? (i := 11) rfl) rfl
theorem zw_71 : (Jvm.Cond.initialized "java/lang/String") ∈ zWSL := zin_1 (List.mem_of_getElem? (i := 12) rfl) rfl
theorem zw_72 : (Jvm.Cond.initialized "java/lang/StringLatin1") ∈ zWSL := zin_1 (List.mem_of_getElem? (i := 13) rfl) rfl
theorem zw_73 : (Jvm.Cond.initialized "jdk/internal/util/Preconditions") ∈ zWSL := zin_1 (List.mem_of_getElem? (i := 14) rfl) rfl
theorem zw_75 : (Jvm.Cond.initialized "java/lang/Math") ∈ zWSL := zin_1 (List.mem_of_getElem? (i := 16) rfl) rfl
theorem zw_81 : (Jvm.Cond.initialized "java/lang/System") ∈ zWSL := zin_1 (List.mem_of_getElem? (i := 22) rfl) rfl
theorem zw_83 : (Jvm.Cond.initialized "FigureCaller$Shape") ∈ zWSL := zin_1 (List.mem_of_getElem? (i := 24) rfl) rfl
theorem zw_84 : (Jvm.Cond.classLink "FigureCallerLaw" (8 : Nat) "FigureCaller") ∈ zWSL := zin_1 (List.mem_of_getElem? (i := 25) rfl) rfl
theorem zw_85 : (Jvm.Cond.instantiable "FigureCaller" (13 : Nat)) ∈ zWSL := zin_1 (List.mem_of_getElem? (i := 26) rfl) rfl
theorem zw_86 : (Jvm.Cond.methodLink "FigureCallerLaw" (53 : Nat) ({ cls := "FigureCaller", name := "<init>", desc := "()V" } : Jvm.MethodName)) ∈ zWSL := zin_1 (List.mem_of_getElem? (i := 27) rfl) rfl
theorem zw_87 : (Jvm.Cond.instanceMethod ({ cls := "FigureCaller", name := "<init>", desc := "()V" } : Jvm.MethodName)) ∈ zWSL := zin_1 (List.mem_of_getElem? (i := 28) rfl) rfl
theorem zw_88 : (Jvm.Cond.code ({ cls := "FigureCaller", name := "<init>", desc := "()V" } : Jvm.MethodName) prog_1_method_1_code (2 : Nat) (Option.none : Option Jvm.ClassFile.FieldType)) ∈ zWSL := zin_1 (List.mem_of_getElem? (i := 29) rfl) rfl
theorem zw_89 : (Jvm.Cond.methodLink "FigureCaller" (1 : Nat) ({ cls := "java/lang/Object", name := "<init>", desc := "()V" } : Jvm.MethodName)) ∈ zWSL := zin_1 (List.mem_of_getElem? (i := 30) rfl) rfl
theorem zw_90 : (Jvm.Cond.instanceMethod ({ cls := "java/lang/Object", name := "<init>", desc := "()V" } : Jvm.MethodName)) ∈ zWSL := zin_1 (List.mem_of_getElem? (i := 31) rfl) rfl
theorem zw_91 : (Jvm.Cond.code ({ cls := "java/lang/Object", name := "<init>", desc := "()V" } : Jvm.MethodName) object_method_1_code (1 : Nat) (Option.none : Option Jvm.ClassFile.FieldType)) ∈ zWSL := zin_1 (List.mem_of_getElem? (i := 32) rfl) rfl
theorem zw_92 : (Jvm.Cond.classLink "FigureCaller" (7 : Nat) "FigureCaller$Text") ∈ zWSL := zin_1 (List.mem_of_getElem? (i := 33) rfl) rfl
theorem zw_93 : (Jvm.Cond.instantiable "FigureCaller$Text" (2 : Nat)) ∈ zWSL := zin_1 (List.mem_of_getElem? (i := 34) rfl) rfl
theorem zw_94 : (Jvm.Cond.methodLinkNest "FigureCaller" (9 : Nat) ({ cls := "FigureCaller$Text", name := "<init>", desc := "()V" } : Jvm.MethodName) "FigureCaller") ∈ zWSL := zin_1 (List.mem_of_getElem? (i := 35) rfl) rfl
theorem zw_95 : (Jvm.Cond.instanceMethod ({ cls := "FigureCaller$Text", name := "<init>", desc := "()V" } : Jvm.MethodName)) ∈ zWSL := zin_1 (List.mem_of_getElem? (i := 36) rfl) rfl
theorem zw_96 : (Jvm.Cond.code ({ cls := "FigureCaller$Text", name := "<init>", desc := "()V" } : Jvm.MethodName) prog_8_method_1_code (1 : Nat) (Option.none : Option Jvm.ClassFile.FieldType)) ∈ zWSL := zin_1 (List.mem_of_getElem? (i := 37) rfl) rfl
theorem zw_97 : (Jvm.Cond.methodLink "FigureCaller$Text" (3 : Nat) ({ cls := "java/lang/Object", name := "<init>", desc := "()V" } : Jvm.MethodName)) ∈ zWSL := zin_1 (List.mem_of_getElem? (i := 38) rfl) rfl
theorem zw_98 : (Jvm.Cond.fieldLink "FigureCaller$Text" (9 : Nat) "FigureCaller$Text" "characters" "[C") ∈ zWSL := zin_1 (List.mem_of_getElem? (i := 39) rfl) rfl
theorem zw_99 : (Jvm.Cond.fieldLinkNest "FigureCaller$Tokens" (27 : Nat) "FigureCaller$Text" "characters" "[C" "FigureCaller") ∈ zWSL := zin_1 (List.mem_of_getElem? (i := 40) rfl) rfl
theorem zw_100 : (Jvm.Cond.fieldLink "FigureCaller$Text" (23 : Nat) "FigureCaller$Text" "length" "I") ∈ zWSL := zin_1 (List.mem_of_getElem? (i := 41) rfl) rfl
theorem zw_101 : (Jvm.Cond.fieldLinkNest "FigureCaller$Reader" (76 : Nat) "FigureCaller$Text" "length" "I" "FigureCaller") ∈ zWSL := zin_1 (List.mem_of_getElem? (i := 42) rfl) rfl
theorem zw_102 : (Jvm.Cond.fieldLinkNest "FigureCaller$Tokens" (22 : Nat) "FigureCaller$Text" "length" "I" "FigureCaller") ∈ zWSL := zin_1 (List.mem_of_getElem? (i := 43) rfl) rfl
theorem zw_103 : (Jvm.Cond.laysFinal "FigureCaller$Text" "FigureCaller$Text" "characters" "[C") ∈ zWSL := zin_1 (List.mem_of_getElem? (i := 44) rfl) rfl
theorem zw_105 : (Jvm.Cond.lays "FigureCaller$Text" "FigureCaller$Text" "length" "I") ∈ zWSL := zin_1 (List.mem_of_getElem? (i := 46) rfl) rfl
theorem zw_108 : (Jvm.Cond.arrayClass Jvm.ClassFile.FieldType.char) ∈ zWSL := zin_1 (List.mem_of_getElem? (i := 49) rfl) rfl
theorem zw_109 : (Jvm.Cond.classLink "FigureCaller" (16 : Nat) "FigureCaller$Book") ∈ zWSL := zin_1 (List.mem_of_getElem? (i := 50) rfl) rfl
theorem zw_110 : (Jvm.Cond.instantiable "FigureCaller$Book" (6 : Nat)) ∈ zWSL := zin_1 (List.mem_of_getElem? (i := 51) rfl) rfl
theorem zw_111 : (Jvm.Cond.methodLink "FigureCaller" (18 : Nat) ({ cls := "FigureCaller$Book", name := "<init>", desc := "()V" } : Jvm.MethodName)) ∈ zWSL := zin_1 (List.mem_of_getElem? (i := 52) rfl) rfl
theorem zw_112 : (Jvm.Cond.instanceMethod ({ cls := "FigureCaller$Book", name := "<init>", desc := "()V" } : Jvm.MethodName)) ∈ zWSL := zin_1 (List.mem_of_getElem? (i := 53) rfl) rfl
theorem zw_113 : (Jvm.Cond.code ({ cls := "FigureCaller$Book", name := "<init>", desc := "()V" } : Jvm.MethodName) prog_2_method_1_code (2 : Nat) (Option.none : Option Jvm.ClassFile.FieldType)) ∈ zWSL := zin_1 (List.mem_of_getElem? (i := 54) rfl) rfl
theorem zw_114 : (Jvm.Cond.methodLink "FigureCaller$Book" (3 : Nat) ({ cls := "java/lang/Object", name := "<init>", desc := "()V" } : Jvm.MethodName)) ∈ zWSL := zin_1 (List.mem_of_getElem? (i := 55) rfl) rfl
theorem zw_115 : (Jvm.Cond.classLink "FigureCaller$Book" (9 : Nat) "FigureCaller$Figure") ∈ zWSL := zin_1 (List.mem_of_getElem? (i := 56) rfl) rfl
theorem zw_116 : (Jvm.Cond.arrayOver (Jvm.ClassFile.FieldType.object "FigureCaller$Figure")) ∈ zWSL := zin_1 (List.mem_of_getElem? (i := 57) rfl) rfl
theorem zw_117 : (Jvm.Cond.instantiable "FigureCaller$Figure" (7 : Nat)) ∈ zWSL := zin_1 (List.mem_of_getElem? (i := 58) rfl) rfl
theorem zw_118 : (Jvm.Cond.methodLinkNest "FigureCaller$Book" (24 : Nat) ({ cls := "FigureCaller$Figure", name := "<init>", desc := "()V" } : Jvm.MethodName) "FigureCaller") ∈ zWSL := zin_1 (List.mem_of_getElem? (i := 59) rfl) rfl
theorem zw_119 : (Jvm.Cond.instanceMethod ({ cls := "FigureCaller$Figure", name := "<init>", desc := "()V" } : Jvm.MethodName)) ∈ zWSL := zin_1 (List.mem_of_getElem? (i := 60) rfl) rfl
theorem zw_120 : (Jvm.Cond.code ({ cls := "FigureCaller$Figure", name := "<init>", desc := "()V" } : Jvm.MethodName) prog_4_method_1_code (1 : Nat) (Option.none : Option Jvm.ClassFile.FieldType)) ∈ zWSL := zin_1 (List.mem_of_getElem? (i := 61) rfl) rfl
theorem zw_121 : (Jvm.Cond.methodLink "FigureCaller$Figure" (3 : Nat) ({ cls := "java/lang/Object", name := "<init>", desc := "()V" } : Jvm.MethodName)) ∈ zWSL := zin_1 (List.mem_of_getElem? (i := 62) rfl) rfl
theorem zw_122 : (Jvm.Cond.fieldLink "FigureCaller$Figure" (9 : Nat) "FigureCaller$Figure" "firstParts" "[I") ∈ zWSL := zin_1 (List.mem_of_getElem? (i := 63) rfl) rfl
theorem zw_123 : (Jvm.Cond.fieldLinkNest "FigureCaller$Dancing" (52 : Nat) "FigureCaller$Figure" "firstParts" "[I" "FigureCaller") ∈ zWSL := zin_1 (List.mem_of_getElem? (i := 64) rfl) rfl
theorem zw_124 : (Jvm.Cond.fieldLink "FigureCaller$Figure" (15 : Nat) "FigureCaller$Figure" "endParts" "[I") ∈ zWSL := zin_1 (List.mem_of_getElem? (i := 65) rfl) rfl
theorem zw_125 : (Jvm.Cond.fieldLinkNest "FigureCaller$Dancing" (55 : Nat) "FigureCaller$Figure" "endParts" "[I" "FigureCaller") ∈ zWSL := zin_1 (List.mem_of_getElem? (i := 66) rfl) rfl
theorem zw_126 : (Jvm.Cond.fieldLink "FigureCaller$Figure" (18 : Nat) "FigureCaller$Figure" "takenAt" "[I") ∈ zWSL := zin_1 (List.mem_of_getElem? (i := 67) rfl) rfl
theorem zw_127 : (Jvm.Cond.fieldLinkNest "FigureCaller$Dancing" (39 : Nat) "FigureCaller$Figure" "takenAt" "[I" "FigureCaller") ∈ zWSL := zin_1 (List.mem_of_getElem? (i := 68) rfl) rfl
theorem zw_128 : (Jvm.Cond.fieldLinkNest "FigureCaller$Book" (29 : Nat) "FigureCaller$Figure" "name" "J" "FigureCaller") ∈ zWSL := zin_1 (List.mem_of_getElem? (i := 69) rfl) rfl
theorem zw_129 : (Jvm.Cond.fieldLinkNest "FigureCaller$Reader" (126 : Nat) "FigureCaller$Figure" "name" "J" "FigureCaller") ∈ zWSL := zin_1 (List.mem_of_getElem? (i := 70) rfl) rfl
theorem zw_130 : (Jvm.Cond.fieldLink "FigureCaller$Figure" (21 : Nat) "FigureCaller$Figure" "beatCount" "I") ∈ zWSL := zin_1 (List.mem_of_getElem? (i := 71) rfl) rfl
theorem zw_131 : (Jvm.Cond.fieldLinkNest "FigureCaller$Dancing" (26 : Nat) "FigureCaller$Figure" "beatCount" "I" "FigureCaller") ∈ zWSL := zin_1 (List.mem_of_getElem? (i := 72) rfl) rfl
theorem zw_132 : (Jvm.Cond.fieldLinkNest "FigureCaller" (117 : Nat) "FigureCaller$Figure" "beatCount" "I" "FigureCaller") ∈ zWSL := zin_1 (List.mem_of_getElem? (i := 73) rfl) rfl
theorem zw_133 : (Jvm.Cond.fieldLinkNest "FigureCaller$Reader" (144 : Nat) "FigureCaller$Figure" "beatCount" "I" "FigureCaller") ∈ zWSL := zin_1 (List.mem_of_getElem? (i := 74) rfl) rfl
theorem zw_134 : (Jvm.Cond.fieldLink "FigureCaller$Figure" (25 : Nat) "FigureCaller$Figure" "depth" "I") ∈ zWSL := zin_1 (List.mem_of_getElem? (i := 75) rfl) rfl
theorem zw_135 : (Jvm.Cond.fieldLinkNest "FigureCaller$WayHome" (62 : Nat) "FigureCaller$Figure" "allowed" "Z" "FigureCaller") ∈ zWSL := zin_1 (List.mem_of_getElem? (i := 76) rfl) rfl
theorem zw_136 : (Jvm.Cond.fieldLinkNest "FigureCaller$Book" (45 : Nat) "FigureCaller$Figure" "allowed" "Z" "FigureCaller") ∈ zWSL := zin_1 (List.mem_of_getElem? (i := 77) rfl) rfl
theorem zw_137 : (Jvm.Cond.fieldLinkNest "FigureCaller" (177 : Nat) "FigureCaller$Figure" "allowed" "Z" "FigureCaller") ∈ zWSL := zin_1 (List.mem_of_getElem? (i := 78) rfl) rfl
theorem zw_138 : (Jvm.Cond.laysFinal "FigureCaller$Figure" "FigureCaller$Figure" "firstParts" "[I") ∈ zWSL := zin_1 (List.mem_of_getElem? (i := 79) rfl) rfl
theorem zw_140 : (Jvm.Cond.laysFinal "FigureCaller$Figure" "FigureCaller$Figure" "endParts" "[I") ∈ zWSL := zin_1 (List.mem_of_getElem? (i := 81) rfl) rfl
theorem zw_142 : (Jvm.Cond.laysFinal "FigureCaller$Figure" "FigureCaller$Figure" "takenAt" "[I") ∈ zWSL := zin_1 (List.mem_of_getElem? (i := 83) rfl) rfl
theorem zw_144 : (Jvm.Cond.lays "FigureCaller$Figure" "FigureCaller$Figure" "name" "J") ∈ zWSL := zin_1 (List.mem_of_getElem? (i := 85) rfl) rfl
theorem zw_146 : (Jvm.Cond.lays "FigureCaller$Figure" "FigureCaller$Figure" "beatCount" "I") ∈ zWSL := zin_1 (List.mem_of_getElem? (i := 87) rfl) rfl
theorem zw_148 : (Jvm.Cond.lays "FigureCaller$Figure" "FigureCaller$Figure" "depth" "I") ∈ zWSL := zin_1 (List.mem_of_getElem? (i := 89) rfl) rfl
theorem zw_150 : (Jvm.Cond.lays "FigureCaller$Figure" "FigureCaller$Figure" "allowed" "Z") ∈ zWSL := zin_1 (List.mem_of_getElem? (i := 91) rfl) rfl
theorem zw_153 : (Jvm.Cond.arrayClass Jvm.ClassFile.FieldType.int) ∈ zWSL := zin_1 (List.mem_of_getElem? (i := 94) rfl) rfl
theorem zw_154 : (Jvm.Cond.fieldLink "FigureCaller$Book" (11 : Nat) "FigureCaller$Book" "figures" "[LFigureCaller$Figure;") ∈ zWSL := zin_1 (List.mem_of_getElem? (i := 95) rfl) rfl
theorem zw_155 : (Jvm.Cond.fieldLinkNest "FigureCaller$WayHome" (58 : Nat) "FigureCaller$Book" "figures" "[LFigureCaller$Figure;" "FigureCaller") ∈ zWSL := zin_1 (List.mem_of_getElem? (i := 96) rfl) rfl
theorem zw_156 : (Jvm.Cond.fieldLink "FigureCaller$Book" (17 : Nat) "FigureCaller$Book" "selectors" "[I") ∈ zWSL := zin_1 (List.mem_of_getElem? (i := 97) rfl) rfl
theorem zw_157 : (Jvm.Cond.fieldLinkNest "FigureCaller$Dancing" (58 : Nat) "FigureCaller$Book" "selectors" "[I" "FigureCaller") ∈ zWSL := zin_1 (List.mem_of_getElem? (i := 98) rfl) rfl
theorem zw_158 : (Jvm.Cond.fieldLink "FigureCaller$Book" (21 : Nat) "FigureCaller$Book" "atoms" "[I") ∈ zWSL := zin_1 (List.mem_of_getElem? (i := 99) rfl) rfl
theorem zw_159 : (Jvm.Cond.fieldLinkNest "FigureCaller$Dancing" (67 : Nat) "FigureCaller$Book" "atoms" "[I" "FigureCaller") ∈ zWSL := zin_1 (List.mem_of_getElem? (i := 100) rfl) rfl
theorem zw_160 : (Jvm.Cond.fieldLink "FigureCaller$Book" (25 : Nat) "FigureCaller$Book" "count" "I") ∈ zWSL := zin_1 (List.mem_of_getElem? (i := 101) rfl) rfl
theorem zw_161 : (Jvm.Cond.fieldLinkNest "FigureCaller$WayHome" (53 : Nat) "FigureCaller$Book" "count" "I" "FigureCaller") ∈ zWSL := zin_1 (List.mem_of_getElem? (i := 102) rfl) rfl
theorem zw_162 : (Jvm.Cond.fieldLink "FigureCaller$Book" (33 : Nat) "FigureCaller$Book" "keptParts" "I") ∈ zWSL := zin_1 (List.mem_of_getElem? (i := 103) rfl) rfl
theorem zw_163 : (Jvm.Cond.fieldLink "FigureCaller$Book" (36 : Nat) "FigureCaller$Book" "partCount" "I") ∈ zWSL := zin_1 (List.mem_of_getElem? (i := 104) rfl) rfl
theorem zw_164 : (Jvm.Cond.fieldLinkNest "FigureCaller$Reader" (129 : Nat) "FigureCaller$Book" "partCount" "I" "FigureCaller") ∈ zWSL := zin_1 (List.mem_of_getElem? (i := 105) rfl) rfl
theorem zw_165 : (Jvm.Cond.laysFinal "FigureCaller$Book" "FigureCaller$Book" "figures" "[LFigureCaller$Figure;") ∈ zWSL := zin_1 (List.mem_of_getElem? (i := 106) rfl) rfl
theorem zw_167 : (Jvm.Cond.laysFinal "FigureCaller$Book" "FigureCaller$Book" "selectors" "[I") ∈ zWSL := zin_1 (List.mem_of_getElem? (i := 108) rfl) rfl
theorem zw_169 : (Jvm.Cond.laysFinal "FigureCaller$Book" "FigureCaller$Book" "atoms" "[I") ∈ zWSL := zin_1 (List.mem_of_getElem? (i := 110) rfl) rfl
theorem zw_171 : (Jvm.Cond.lays "FigureCaller$Book" "FigureCaller$Book" "count" "I") ∈ zWSL := zin_1 (List.mem_of_getElem? (i := 112) rfl) rfl
theorem zw_173 : (Jvm.Cond.lays "FigureCaller$Book" "FigureCaller$Book" "keptParts" "I") ∈ zWSL := zin_1 (List.mem_of_getElem? (i := 114) rfl) rfl
theorem zw_175 : (Jvm.Cond.lays "FigureCaller$Book" "FigureCaller$Book" "partCount" "I") ∈ zWSL := zin_1 (List.mem_of_getElem? (i := 116) rfl) rfl
theorem zw_178 : (Jvm.Cond.classLink "FigureCaller" (23 : Nat) "FigureCaller$Reader") ∈ zWSL := zin_1 (List.mem_of_getElem? (i := 119) rfl) rfl
theorem zw_179 : (Jvm.Cond.instantiable "FigureCaller$Reader" (10 : Nat)) ∈ zWSL := zin_1 (List.mem_of_getElem? (i := 120) rfl) rfl
theorem zw_180 : (Jvm.Cond.methodLink "FigureCaller" (25 : Nat) ({ cls := "FigureCaller$Reader", name := "<init>", desc := "(LFigureCaller$Text;LFigureCaller$Book;)V" } : Jvm.MethodName)) ∈ zWSL := zin_1 (List.mem_of_getElem? (i := 121) rfl) rfl
theorem zw_181 : (Jvm.Cond.instanceMethod ({ cls := "FigureCaller$Reader", name := "<init>", desc := "(LFigureCaller$Text;LFigureCaller$Book;)V" } : Jvm.MethodName)) ∈ zWSL := zin_1 (List.mem_of_getElem? (i := 122) rfl) rfl
theorem zw_182 : (Jvm.Cond.code ({ cls := "FigureCaller$Reader", name := "<init>", desc := "(LFigureCaller$Text;LFigureCaller$Book;)V" } : Jvm.MethodName) prog_5_method_1_code (3 : Nat) (Option.none : Option Jvm.ClassFile.FieldType)) ∈ zWSL := zin_1 (List.mem_of_getElem? (i := 123) rfl) rfl
theorem zw_183 : (Jvm.Cond.methodLink "FigureCaller$Reader" (3 : Nat) ({ cls := "java/lang/Object", name := "<init>", desc := "()V" } : Jvm.MethodName)) ∈ zWSL := zin_1 (List.mem_of_getElem? (i := 124) rfl) rfl
theorem zw_184 : (Jvm.Cond.classLink "FigureCaller$Reader" (26 : Nat) "FigureCaller$Tokens") ∈ zWSL := zin_1 (List.mem_of_getElem? (i := 125) rfl) rfl
theorem zw_185 : (Jvm.Cond.instantiable "FigureCaller$Tokens" (7 : Nat)) ∈ zWSL := zin_1 (List.mem_of_getElem? (i := 126) rfl) rfl
theorem zw_186 : (Jvm.Cond.methodLink "FigureCaller$Reader" (28 : Nat) ({ cls := "FigureCaller$Tokens", name := "<init>", desc := "(LFigureCaller$Text;)V" } : Jvm.MethodName)) ∈ zWSL := zin_1 (List.mem_of_getElem? (i := 127) rfl) rfl
theorem zw_187 : (Jvm.Cond.instanceMethod ({ cls := "FigureCaller$Tokens", name := "<init>", desc := "(LFigureCaller$Text;)V" } : Jvm.MethodName)) ∈ zWSL := zin_1 (List.mem_of_getElem? (i := 128) rfl) rfl
theorem zw_188 : (Jvm.Cond.code ({ cls := "FigureCaller$Tokens", name := "<init>", desc := "(LFigureCaller$Text;)V" } : Jvm.MethodName) prog_9_method_1_code (2 : Nat) (Option.none : Option Jvm.ClassFile.FieldType)) ∈ zWSL := zin_1 (List.mem_of_getElem? (i := 129) rfl) rfl
theorem zw_189 : (Jvm.Cond.methodLink "FigureCaller$Tokens" (3 : Nat) ({ cls := "java/lang/Object", name := "<init>", desc := "()V" } : Jvm.MethodName)) ∈ zWSL := zin_1 (List.mem_of_getElem? (i := 130) rfl) rfl
theorem zw_190 : (Jvm.Cond.fieldLink "FigureCaller$Tokens" (9 : Nat) "FigureCaller$Tokens" "text" "LFigureCaller$Text;") ∈ zWSL := zin_1 (List.mem_of_getElem? (i := 131) rfl) rfl
theorem zw_191 : (Jvm.Cond.fieldLinkNest "FigureCaller$Reader" (58 : Nat) "FigureCaller$Tokens" "kind" "I" "FigureCaller") ∈ zWSL := zin_1 (List.mem_of_getElem? (i := 132) rfl) rfl
theorem zw_192 : (Jvm.Cond.fieldLink "FigureCaller$Tokens" (31 : Nat) "FigureCaller$Tokens" "kind" "I") ∈ zWSL := zin_1 (List.mem_of_getElem? (i := 133) rfl) rfl
theorem zw_193 : (Jvm.Cond.fieldLinkNest "FigureCaller$Reader" (65 : Nat) "FigureCaller$Tokens" "start" "I" "FigureCaller") ∈ zWSL := zin_1 (List.mem_of_getElem? (i := 134) rfl) rfl
theorem zw_194 : (Jvm.Cond.fieldLink "FigureCaller$Tokens" (19 : Nat) "FigureCaller$Tokens" "start" "I") ∈ zWSL := zin_1 (List.mem_of_getElem? (i := 135) rfl) rfl
theorem zw_195 : (Jvm.Cond.fieldLink "FigureCaller$Tokens" (15 : Nat) "FigureCaller$Tokens" "end" "I") ∈ zWSL := zin_1 (List.mem_of_getElem? (i := 136) rfl) rfl
theorem zw_196 : (Jvm.Cond.fieldLinkNest "FigureCaller$Reader" (110 : Nat) "FigureCaller$Tokens" "word" "J" "FigureCaller") ∈ zWSL := zin_1 (List.mem_of_getElem? (i := 137) rfl) rfl
theorem zw_197 : (Jvm.Cond.fieldLink "FigureCaller$Tokens" (61 : Nat) "FigureCaller$Tokens" "word" "J") ∈ zWSL := zin_1 (List.mem_of_getElem? (i := 138) rfl) rfl
theorem zw_198 : (Jvm.Cond.fieldLinkNest "FigureCaller$Reader" (141 : Nat) "FigureCaller$Tokens" "digit" "I" "FigureCaller") ∈ zWSL := zin_1 (List.mem_of_getElem? (i := 139) rfl) rfl
theorem zw_199 : (Jvm.Cond.fieldLink "FigureCaller$Tokens" (65 : Nat) "FigureCaller$Tokens" "digit" "I") ∈ zWSL := zin_1 (List.mem_of_getElem? (i := 140) rfl) rfl
theorem zw_200 : (Jvm.Cond.fieldLink "FigureCaller$Tokens" (44 : Nat) "FigureCaller$Tokens" "sign" "C") ∈ zWSL := zin_1 (List.mem_of_getElem? (i := 141) rfl) rfl
theorem zw_201 : (Jvm.Cond.laysFinal "FigureCaller$Tokens" "FigureCaller$Tokens" "text" "LFigureCaller$Text;") ∈ zWSL := zin_1 (List.mem_of_getElem? (i := 142) rfl) rfl
theorem zw_203 : (Jvm.Cond.lays "FigureCaller$Tokens" "FigureCaller$Tokens" "kind" "I") ∈ zWSL := zin_1 (List.mem_of_getElem? (i := 144) rfl) rfl
theorem zw_205 : (Jvm.Cond.lays "FigureCaller$Tokens" "FigureCaller$Tokens" "start" "I") ∈ zWSL := zin_1 (List.mem_of_getElem? (i := 146) rfl) rfl
theorem zw_207 : (Jvm.Cond.lays "FigureCaller$Tokens" "FigureCaller$Tokens" "end" "I") ∈ zWSL := zin_1 (List.mem_of_getElem? (i := 148) rfl) rfl
theorem zw_209 : (Jvm.Cond.lays "FigureCaller$Tokens" "FigureCaller$Tokens" "word" "J") ∈ zWSL := zin_1 (List.mem_of_getElem? (i := 150) rfl) rfl
theorem zw_211 : (Jvm.Cond.lays "FigureCaller$Tokens" "FigureCaller$Tokens" "digit" "I") ∈ zWSL := zin_1 (List.mem_of_getElem? (i := 152) rfl) rfl
theorem zw_213 : (Jvm.Cond.lays "FigureCaller$Tokens" "FigureCaller$Tokens" "sign" "C") ∈ zWSL := zin_1 (List.mem_of_getElem? (i := 154) rfl) rfl
theorem zw_216 : (Jvm.Cond.methodLink "FigureCaller$Reader" (35 : Nat) ({ cls := "FigureCaller$Book", name := "beginDraft", desc := "()LFigureCaller$Figure;" } : Jvm.MethodName)) ∈ zWSL := zin_1 (List.mem_of_getElem? (i := 157) rfl) rfl
theorem zw_217 : (Jvm.Cond.instanceMethod ({ cls := "FigureCaller$Book", name := "beginDraft", desc := "()LFigureCaller$Figure;" } : Jvm.MethodName)) ∈ zWSL := zin_1 (List.mem_of_getElem? (i := 158) rfl) rfl
theorem zw_218 : (Jvm.Cond.selects "FigureCaller$Book" ({ cls := "FigureCaller$Book", name := "beginDraft", desc := "()LFigureCaller$Figure;" } : Jvm.MethodName) ({ cls := "FigureCaller$Book", name := "beginDraft", desc := "()LFigureCaller$Figure;" } : Jvm.MethodName)) ∈ zWSL := zin_1 (List.mem_of_getElem? (i := 159) rfl) rfl
theorem zw_219 : (Jvm.Cond.code ({ cls := "FigureCaller$Book", name := "beginDraft", desc := "()LFigureCaller$Figure;" } : Jvm.MethodName) prog_2_method_6_code (1 : Nat) (Option.some (Jvm.ClassFile.FieldType.object "FigureCaller$Figure"))) ∈ zWSL := zin_1 (List.mem_of_getElem? (i := 160) rfl) rfl
theorem zw_220 : (Jvm.Cond.methodLink "FigureCaller$Book" (39 : Nat) ({ cls := "FigureCaller$Figure", name := "begin", desc := "()V" } : Jvm.MethodName)) ∈ zWSL := zin_1 (List.mem_of_getElem? (i := 161) rfl) rfl
theorem zw_221 : (Jvm.Cond.instanceMethod ({ cls := "FigureCaller$Figure", name := "begin", desc := "()V" } : Jvm.MethodName)) ∈ zWSL := zin_1 (List.mem_of_getElem? (i := 162) rfl) rfl
theorem zw_222 : (Jvm.Cond.selects "FigureCaller$Figure" ({ cls := "FigureCaller$Figure", name := "begin", desc := "()V" } : Jvm.MethodName) ({ cls := "FigureCaller$Figure", name := "begin", desc := "()V" } : Jvm.MethodName)) ∈ zWSL := zin_1 (List.mem_of_getElem? (i := 163) rfl) rfl
theorem zw_223 : (Jvm.Cond.code ({ cls := "FigureCaller$Figure", name := "begin", desc := "()V" } : Jvm.MethodName) prog_4_method_2_code (1 : Nat) (Option.none : Option Jvm.ClassFile.FieldType)) ∈ zWSL := zin_1 (List.mem_of_getElem? (i := 164) rfl) rfl
theorem zw_224 : (Jvm.Cond.fieldLink "FigureCaller$Reader" (18 : Nat) "FigureCaller$Reader" "text" "LFigureCaller$Text;") ∈ zWSL := zin_1 (List.mem_of_getElem? (i := 165) rfl) rfl
theorem zw_225 : (Jvm.Cond.fieldLink "FigureCaller$Reader" (22 : Nat) "FigureCaller$Reader" "book" "LFigureCaller$Book;") ∈ zWSL := zin_1 (List.mem_of_getElem? (i := 166) rfl) rfl
theorem zw_226 : (Jvm.Cond.fieldLink "FigureCaller$Reader" (31 : Nat) "FigureCaller$Reader" "tokens" "LFigureCaller$Tokens;") ∈ zWSL := zin_1 (List.mem_of_getElem? (i := 167) rfl) rfl
theorem zw_227 : (Jvm.Cond.fieldLink "FigureCaller$Reader" (9 : Nat) "FigureCaller$Reader" "times" "[I") ∈ zWSL := zin_1 (List.mem_of_getElem? (i := 168) rfl) rfl
theorem zw_228 : (Jvm.Cond.fieldLink "FigureCaller$Reader" (15 : Nat) "FigureCaller$Reader" "openedAt" "[I") ∈ zWSL := zin_1 (List.mem_of_getElem? (i := 169) rfl) rfl
theorem zw_229 : (Jvm.Cond.fieldLink "FigureCaller$Reader" (41 : Nat) "FigureCaller$Reader" "draft" "LFigureCaller$Figure;") ∈ zWSL := zin_1 (List.mem_of_getElem? (i := 170) rfl) rfl
theorem zw_230 : (Jvm.Cond.fieldLink "FigureCaller$Reader" (48 : Nat) "FigureCaller$Reader" "open" "I") ∈ zWSL := zin_1 (List.mem_of_getElem? (i := 171) rfl) rfl
theorem zw_231 : (Jvm.Cond.fieldLink "FigureCaller$Reader" (52 : Nat) "FigureCaller$Reader" "expected" "I") ∈ zWSL := zin_1 (List.mem_of_getElem? (i := 172) rfl) rfl
theorem zw_232 : (Jvm.Cond.fieldLink "FigureCaller$Reader" (132 : Nat) "FigureCaller$Reader" "beatStart" "I") ∈ zWSL := zin_1 (List.mem_of_getElem? (i := 173) rfl) rfl
theorem zw_233 : (Jvm.Cond.fieldLink "FigureCaller$Reader" (155 : Nat) "FigureCaller$Reader" "selector" "I") ∈ zWSL := zin_1 (List.mem_of_getElem? (i := 174) rfl) rfl
theorem zw_234 : (Jvm.Cond.laysFinal "FigureCaller$Reader" "FigureCaller$Reader" "text" "LFigureCaller$Text;") ∈ zWSL := zin_1 (List.mem_of_getElem? (i := 175) rfl) rfl
theorem zw_236 : (Jvm.Cond.laysFinal "FigureCaller$Reader" "FigureCaller$Reader" "book" "LFigureCaller$Book;") ∈ zWSL := zin_1 (List.mem_of_getElem? (i := 177) rfl) rfl
theorem zw_238 : (Jvm.Cond.laysFinal "FigureCaller$Reader" "FigureCaller$Reader" "tokens" "LFigureCaller$Tokens;") ∈ zWSL := zin_1 (List.mem_of_getElem? (i := 179) rfl) rfl
theorem zw_240 : (Jvm.Cond.laysFinal "FigureCaller$Reader" "FigureCaller$Reader" "times" "[I") ∈ zWSL := zin_1 (List.mem_of_getElem? (i := 181) rfl) rfl
theorem zw_242 : (Jvm.Cond.laysFinal "FigureCaller$Reader" "FigureCaller$Reader" "openedAt" "[I") ∈ zWSL := zin_1 (List.mem_of_getElem? (i := 183) rfl) rfl
theorem zw_244 : (Jvm.Cond.lays "FigureCaller$Reader" "FigureCaller$Reader" "draft" "LFigureCaller$Figure;") ∈ zWSL := zin_1 (List.mem_of_getElem? (i := 185) rfl) rfl
theorem zw_246 : (Jvm.Cond.lays "FigureCaller$Reader" "FigureCaller$Reader" "open" "I") ∈ zWSL := zin_1 (List.mem_of_getElem? (i := 187) rfl) rfl
theorem zw_248 : (Jvm.Cond.lays "FigureCaller$Reader" "FigureCaller$Reader" "expected" "I") ∈ zWSL := zin_1 (List.mem_of_getElem? (i := 189) rfl) rfl
theorem zw_250 : (Jvm.Cond.lays "FigureCaller$Reader" "FigureCaller$Reader" "beatStart" "I") ∈ zWSL := zin_1 (List.mem_of_getElem? (i := 191) rfl) rfl
theorem zw_252 : (Jvm.Cond.lays "FigureCaller$Reader" "FigureCaller$Reader" "selector" "I") ∈ zWSL := zin_1 (List.mem_of_getElem? (i := 193) rfl) rfl
theorem zw_255 : (Jvm.Cond.classLink "FigureCaller" (32 : Nat) "FigureCaller$Dancing") ∈ zWSL := zin_1 (List.mem_of_getElem? (i := 196) rfl) rfl
theorem zw_256 : (Jvm.Cond.instantiable "FigureCaller$Dancing" (3 : Nat)) ∈ zWSL := zin_1 (List.mem_of_getElem? (i := 197) rfl) rfl
theorem zw_257 : (Jvm.Cond.methodLink "FigureCaller" (34 : Nat) ({ cls := "FigureCaller$Dancing", name := "<init>", desc := "(LFigureCaller$Book;)V" } : Jvm.MethodName)) ∈ zWSL := zin_1 (List.mem_of_getElem? (i := 198) rfl) rfl
theorem zw_258 : (Jvm.Cond.instanceMethod ({ cls := "FigureCaller$Dancing", name := "<init>", desc := "(LFigureCaller$Book;)V" } : Jvm.MethodName)) ∈ zWSL := zin_1 (List.mem_of_getElem? (i := 199) rfl) rfl
theorem zw_259 : (Jvm.Cond.code ({ cls := "FigureCaller$Dancing", name := "<init>", desc := "(LFigureCaller$Book;)V" } : Jvm.MethodName) prog_3_method_1_code (2 : Nat) (Option.none : Option Jvm.ClassFile.FieldType)) ∈ zWSL := zin_1 (List.mem_of_getElem? (i := 200) rfl) rfl
theorem zw_260 : (Jvm.Cond.methodLink "FigureCaller$Dancing" (3 : Nat) ({ cls := "java/lang/Object", name := "<init>", desc := "()V" } : Jvm.MethodName)) ∈ zWSL := zin_1 (List.mem_of_getElem? (i := 201) rfl) rfl
theorem zw_261 : (Jvm.Cond.classLink "FigureCaller$Dancing" (9 : Nat) "FigureCaller$Selection") ∈ zWSL := zin_1 (List.mem_of_getElem? (i := 202) rfl) rfl
theorem zw_262 : (Jvm.Cond.instantiable "FigureCaller$Selection" (1 : Nat)) ∈ zWSL := zin_1 (List.mem_of_getElem? (i := 203) rfl) rfl
theorem zw_263 : (Jvm.Cond.methodLinkNest "FigureCaller$Dancing" (11 : Nat) ({ cls := "FigureCaller$Selection", name := "<init>", desc := "()V" } : Jvm.MethodName) "FigureCaller") ∈ zWSL := zin_1 (List.mem_of_getElem? (i := 204) rfl) rfl
theorem zw_264 : (Jvm.Cond.instanceMethod ({ cls := "FigureCaller$Selection", name := "<init>", desc := "()V" } : Jvm.MethodName)) ∈ zWSL := zin_1 (List.mem_of_getElem? (i := 205) rfl) rfl
theorem zw_265 : (Jvm.Cond.code ({ cls := "FigureCaller$Selection", name := "<init>", desc := "()V" } : Jvm.MethodName) prog_6_method_1_code (1 : Nat) (Option.none : Option Jvm.ClassFile.FieldType)) ∈ zWSL := zin_1 (List.mem_of_getElem? (i := 206) rfl) rfl
theorem zw_266 : (Jvm.Cond.methodLink "FigureCaller$Selection" (3 : Nat) ({ cls := "java/lang/Object", name := "<init>", desc := "()V" } : Jvm.MethodName)) ∈ zWSL := zin_1 (List.mem_of_getElem? (i := 207) rfl) rfl
theorem zw_267 : (Jvm.Cond.fieldLink "FigureCaller$Selection" (9 : Nat) "FigureCaller$Selection" "distances" "[I") ∈ zWSL := zin_1 (List.mem_of_getElem? (i := 208) rfl) rfl
theorem zw_268 : (Jvm.Cond.laysFinal "FigureCaller$Selection" "FigureCaller$Selection" "distances" "[I") ∈ zWSL := zin_1 (List.mem_of_getElem? (i := 209) rfl) rfl
theorem zw_271 : (Jvm.Cond.fieldLink "FigureCaller$Dancing" (22 : Nat) "FigureCaller$Dancing" "book" "LFigureCaller$Book;") ∈ zWSL := zin_1 (List.mem_of_getElem? (i := 212) rfl) rfl
theorem zw_272 : (Jvm.Cond.fieldLink "FigureCaller$Dancing" (12 : Nat) "FigureCaller$Dancing" "selection" "LFigureCaller$Selection;") ∈ zWSL := zin_1 (List.mem_of_getElem? (i := 213) rfl) rfl
theorem zw_273 : (Jvm.Cond.fieldLinkNest "FigureCaller" (155 : Nat) "FigureCaller$Dancing" "selection" "LFigureCaller$Selection;" "FigureCaller") ∈ zWSL := zin_1 (List.mem_of_getElem? (i := 214) rfl) rfl
theorem zw_274 : (Jvm.Cond.fieldLink "FigureCaller$Dancing" (18 : Nat) "FigureCaller$Dancing" "atoms" "[I") ∈ zWSL := zin_1 (List.mem_of_getElem? (i := 215) rfl) rfl
theorem zw_275 : (Jvm.Cond.laysFinal "FigureCaller$Dancing" "FigureCaller$Dancing" "book" "LFigureCaller$Book;") ∈ zWSL := zin_1 (List.mem_of_getElem? (i := 216) rfl) rfl
theorem zw_277 : (Jvm.Cond.laysFinal "FigureCaller$Dancing" "FigureCaller$Dancing" "selection" "LFigureCaller$Selection;") ∈ zWSL := zin_1 (List.mem_of_getElem? (i := 218) rfl) rfl
theorem zw_279 : (Jvm.Cond.laysFinal "FigureCaller$Dancing" "FigureCaller$Dancing" "atoms" "[I") ∈ zWSL := zin_1 (List.mem_of_getElem? (i := 220) rfl) rfl
theorem zw_282 : (Jvm.Cond.classLink "FigureCaller" (41 : Nat) "FigureCaller$WayHome") ∈ zWSL := zin_1 (List.mem_of_getElem? (i := 223) rfl) rfl
theorem zw_283 : (Jvm.Cond.instantiable "FigureCaller$WayHome" (8 : Nat)) ∈ zWSL := zin_1 (List.mem_of_getElem? (i := 224) rfl) rfl
theorem zw_284 : (Jvm.Cond.methodLink "FigureCaller" (43 : Nat) ({ cls := "FigureCaller$WayHome", name := "<init>", desc := "(LFigureCaller$Book;LFigureCaller$Dancing;)V" } : Jvm.MethodName)) ∈ zWSL := zin_1 (List.mem_of_getElem? (i := 225) rfl) rfl
theorem zw_285 : (Jvm.Cond.instanceMethod ({ cls := "FigureCaller$WayHome", name := "<init>", desc := "(LFigureCaller$Book;LFigureCaller$Dancing;)V" } : Jvm.MethodName)) ∈ zWSL := zin_1 (List.mem_of_getElem? (i := 226) rfl) rfl
theorem zw_286 : (Jvm.Cond.code ({ cls := "FigureCaller$WayHome", name := "<init>", desc := "(LFigureCaller$Book;LFigureCaller$Dancing;)V" } : Jvm.MethodName) prog_11_method_1_code (3 : Nat) (Option.none : Option Jvm.ClassFile.FieldType)) ∈ zWSL := zin_1 (List.mem_of_getElem? (i := 227) rfl) rfl
theorem zw_287 : (Jvm.Cond.methodLink "FigureCaller$WayHome" (3 : Nat) ({ cls := "java/lang/Object", name := "<init>", desc := "()V" } : Jvm.MethodName)) ∈ zWSL := zin_1 (List.mem_of_getElem? (i := 228) rfl) rfl
theorem zw_288 : (Jvm.Cond.fieldLink "FigureCaller$WayHome" (24 : Nat) "FigureCaller$WayHome" "book" "LFigureCaller$Book;") ∈ zWSL := zin_1 (List.mem_of_getElem? (i := 229) rfl) rfl
theorem zw_289 : (Jvm.Cond.fieldLink "FigureCaller$WayHome" (28 : Nat) "FigureCaller$WayHome" "dancing" "LFigureCaller$Dancing;") ∈ zWSL := zin_1 (List.mem_of_getElem? (i := 230) rfl) rfl
theorem zw_290 : (Jvm.Cond.fieldLink "FigureCaller$WayHome" (11 : Nat) "FigureCaller$WayHome" "rows" "[I") ∈ zWSL := zin_1 (List.mem_of_getElem? (i := 231) rfl) rfl
theorem zw_291 : (Jvm.Cond.fieldLink "FigureCaller$WayHome" (15 : Nat) "FigureCaller$WayHome" "parents" "[I") ∈ zWSL := zin_1 (List.mem_of_getElem? (i := 232) rfl) rfl
theorem zw_292 : (Jvm.Cond.fieldLink "FigureCaller$WayHome" (18 : Nat) "FigureCaller$WayHome" "lastCalls" "[I") ∈ zWSL := zin_1 (List.mem_of_getElem? (i := 233) rfl) rfl
theorem zw_293 : (Jvm.Cond.fieldLink "FigureCaller$WayHome" (21 : Nat) "FigureCaller$WayHome" "calls" "[I") ∈ zWSL := zin_1 (List.mem_of_getElem? (i := 234) rfl) rfl
theorem zw_294 : (Jvm.Cond.fieldLinkNest "FigureCaller" (190 : Nat) "FigureCaller$WayHome" "calls" "[I" "FigureCaller") ∈ zWSL := zin_1 (List.mem_of_getElem? (i := 235) rfl) rfl
theorem zw_295 : (Jvm.Cond.fieldLink "FigureCaller$WayHome" (46 : Nat) "FigureCaller$WayHome" "nodes" "I") ∈ zWSL := zin_1 (List.mem_of_getElem? (i := 236) rfl) rfl
theorem zw_296 : (Jvm.Cond.fieldLink "FigureCaller$WayHome" (32 : Nat) "FigureCaller$WayHome" "found" "I") ∈ zWSL := zin_1 (List.mem_of_getElem? (i := 237) rfl) rfl
theorem zw_297 : (Jvm.Cond.fieldLinkNest "FigureCaller" (185 : Nat) "FigureCaller$WayHome" "found" "I" "FigureCaller") ∈ zWSL := zin_1 (List.mem_of_getElem? (i := 238) rfl) rfl
theorem zw_298 : (Jvm.Cond.laysFinal "FigureCaller$WayHome" "FigureCaller$WayHome" "book" "LFigureCaller$Book;") ∈ zWSL := zin_1 (List.mem_of_getElem? (i := 239) rfl) rfl
theorem zw_300 : (Jvm.Cond.laysFinal "FigureCaller$WayHome" "FigureCaller$WayHome" "dancing" "LFigureCaller$Dancing;") ∈ zWSL := zin_2 (List.mem_of_getElem? (i := 1) rfl) rfl
theorem zw_302 : (Jvm.Cond.laysFinal "FigureCaller$WayHome" "FigureCaller$WayHome" "rows" "[I") ∈ zWSL := zin_2 (List.mem_of_getElem? (i := 3) rfl) rfl
theorem zw_304 : (Jvm.Cond.laysFinal "FigureCaller$WayHome" "FigureCaller$WayHome" "parents" "[I") ∈ zWSL := zin_2 (List.mem_of_getElem? (i := 5) rfl) rfl
theorem zw_306 : (Jvm.Cond.laysFinal "FigureCaller$WayHome" "FigureCaller$WayHome" "lastCalls" "[I") ∈ zWSL := zin_2 (List.mem_of_getElem? (i := 7) rfl) rfl
theorem zw_308 : (Jvm.Cond.laysFinal "FigureCaller$WayHome" "FigureCaller$WayHome" "calls" "[I") ∈ zWSL := zin_2 (List.mem_of_getElem? (i := 9) rfl) rfl
theorem zw_310 : (Jvm.Cond.lays "FigureCaller$WayHome" "FigureCaller$WayHome" "nodes" "I") ∈ zWSL := zin_2 (List.mem_of_getElem? (i := 11) rfl) rfl
theorem zw_312 : (Jvm.Cond.lays "FigureCaller$WayHome" "FigureCaller$WayHome" "found" "I") ∈ zWSL := zin_2 (List.mem_of_getElem? (i := 13) rfl) rfl
theorem zw_315 : (Jvm.Cond.classLink "FigureCaller" (50 : Nat) "FigureCaller$Track") ∈ zWSL := zin_2 (List.mem_of_getElem? (i := 16) rfl) rfl
theorem zw_316 : (Jvm.Cond.arrayOver (Jvm.ClassFile.FieldType.object "FigureCaller$Track")) ∈ zWSL := zin_2 (List.mem_of_getElem? (i := 17) rfl) rfl
theorem zw_317 : (Jvm.Cond.instantiable "FigureCaller$Track" (2 : Nat)) ∈ zWSL := zin_2 (List.mem_of_getElem? (i := 18) rfl) rfl
theorem zw_318 : (Jvm.Cond.methodLinkNest "FigureCaller" (56 : Nat) ({ cls := "FigureCaller$Track", name := "<init>", desc := "()V" } : Jvm.MethodName) "FigureCaller") ∈ zWSL := zin_2 (List.mem_of_getElem? (i := 19) rfl) rfl
theorem zw_319 : (Jvm.Cond.instanceMethod ({ cls := "FigureCaller$Track", name := "<init>", desc := "()V" } : Jvm.MethodName)) ∈ zWSL := zin_2 (List.mem_of_getElem? (i := 20) rfl) rfl
theorem zw_320 : (Jvm.Cond.code ({ cls := "FigureCaller$Track", name := "<init>", desc := "()V" } : Jvm.MethodName) prog_10_method_1_code (1 : Nat) (Option.none : Option Jvm.ClassFile.FieldType)) ∈ zWSL := zin_2 (List.mem_of_getElem? (i := 21) rfl) rfl
theorem zw_321 : (Jvm.Cond.methodLink "FigureCaller$Track" (3 : Nat) ({ cls := "java/lang/Object", name := "<init>", desc := "()V" } : Jvm.MethodName)) ∈ zWSL := zin_2 (List.mem_of_getElem? (i := 22) rfl) rfl
theorem zw_322 : (Jvm.Cond.fieldLink "FigureCaller$Track" (9 : Nat) "FigureCaller$Track" "rows" "[I") ∈ zWSL := zin_2 (List.mem_of_getElem? (i := 23) rfl) rfl
theorem zw_323 : (Jvm.Cond.fieldLinkNest "FigureCaller$Dancing" (42 : Nat) "FigureCaller$Track" "rows" "[I" "FigureCaller") ∈ zWSL := zin_2 (List.mem_of_getElem? (i := 24) rfl) rfl
theorem zw_324 : (Jvm.Cond.fieldLink "FigureCaller$Track" (21 : Nat) "FigureCaller$Track" "beatCount" "I") ∈ zWSL := zin_2 (List.mem_of_getElem? (i := 25) rfl) rfl
theorem zw_325 : (Jvm.Cond.fieldLinkNest "FigureCaller$Dancing" (51 : Nat) "FigureCaller$Track" "beatCount" "I" "FigureCaller") ∈ zWSL := zin_2 (List.mem_of_getElem? (i := 26) rfl) rfl
theorem zw_326 : (Jvm.Cond.fieldLinkNest "FigureCaller$WayHome" (92 : Nat) "FigureCaller$Track" "beatCount" "I" "FigureCaller") ∈ zWSL := zin_2 (List.mem_of_getElem? (i := 27) rfl) rfl
theorem zw_327 : (Jvm.Cond.fieldLinkNest "FigureCaller" (138 : Nat) "FigureCaller$Track" "beatCount" "I" "FigureCaller") ∈ zWSL := zin_2 (List.mem_of_getElem? (i := 28) rfl) rfl
theorem zw_328 : (Jvm.Cond.laysFinal "FigureCaller$Track" "FigureCaller$Track" "rows" "[I") ∈ zWSL := zin_2 (List.mem_of_getElem? (i := 29) rfl) rfl
theorem zw_330 : (Jvm.Cond.lays "FigureCaller$Track" "FigureCaller$Track" "beatCount" "I") ∈ zWSL := zin_2 (List.mem_of_getElem? (i := 31) rfl) rfl
theorem zw_333 : (Jvm.Cond.methodLink "FigureCaller" (75 : Nat) ({ cls := "FigureCaller", name := "putHome", desc := "([II)V" } : Jvm.MethodName)) ∈ zWSL := zin_2 (List.mem_of_getElem? (i := 34) rfl) rfl
theorem zw_334 : (Jvm.Cond.static ({ cls := "FigureCaller", name := "putHome", desc := "([II)V" } : Jvm.MethodName)) ∈ zWSL := zin_2 (List.mem_of_getElem? (i := 35) rfl) rfl
theorem zw_335 : (Jvm.Cond.code ({ cls := "FigureCaller", name := "putHome", desc := "([II)V" } : Jvm.MethodName) prog_1_method_23_code (3 : Nat) (Option.none : Option Jvm.ClassFile.FieldType)) ∈ zWSL := zin_2 (List.mem_of_getElem? (i := 36) rfl) rfl
theorem zw_336 : (Jvm.Cond.fieldLink "FigureCaller" (216 : Nat) "FigureCaller" "HOME_SPOTS" "[I") ∈ zWSL := zin_2 (List.mem_of_getElem? (i := 37) rfl) rfl
theorem zw_338 : (Jvm.Cond.fieldLink "FigureCaller" (219 : Nat) "FigureCaller" "HOME_FACINGS" "[I") ∈ zWSL := zin_2 (List.mem_of_getElem? (i := 39) rfl) rfl
theorem zw_340 : (Jvm.Cond.fieldLink "FigureCaller" (10 : Nat) "FigureCaller" "text" "LFigureCaller$Text;") ∈ zWSL := zin_2 (List.mem_of_getElem? (i := 41) rfl) rfl
theorem zw_341 : (Jvm.Cond.fieldLink "FigureCaller" (19 : Nat) "FigureCaller" "book" "LFigureCaller$Book;") ∈ zWSL := zin_2 (List.mem_of_getElem? (i := 42) rfl) rfl
theorem zw_342 : (Jvm.Cond.fieldLink "FigureCaller" (28 : Nat) "FigureCaller" "reader" "LFigureCaller$Reader;") ∈ zWSL := zin_2 (List.mem_of_getElem? (i := 43) rfl) rfl
theorem zw_343 : (Jvm.Cond.fieldLink "FigureCaller" (37 : Nat) "FigureCaller" "dancing" "LFigureCaller$Dancing;") ∈ zWSL := zin_2 (List.mem_of_getElem? (i := 44) rfl) rfl
theorem zw_344 : (Jvm.Cond.fieldLink "FigureCaller" (46 : Nat) "FigureCaller" "wayHome" "LFigureCaller$WayHome;") ∈ zWSL := zin_2 (List.mem_of_getElem? (i := 45) rfl) rfl
theorem zw_345 : (Jvm.Cond.fieldLink "FigureCaller" (52 : Nat) "FigureCaller" "journal" "[LFigureCaller$Track;") ∈ zWSL := zin_2 (List.mem_of_getElem? (i := 46) rfl) rfl
theorem zw_346 : (Jvm.Cond.fieldLink "FigureCaller" (57 : Nat) "FigureCaller" "trial" "LFigureCaller$Track;") ∈ zWSL := zin_2 (List.mem_of_getElem? (i := 47) rfl) rfl
theorem zw_347 : (Jvm.Cond.fieldLink "FigureCaller" (61 : Nat) "FigureCaller" "otherTrial" "LFigureCaller$Track;") ∈ zWSL := zin_2 (List.mem_of_getElem? (i := 48) rfl) rfl
theorem zw_348 : (Jvm.Cond.fieldLink "FigureCaller" (64 : Nat) "FigureCaller" "places" "[I") ∈ zWSL := zin_2 (List.mem_of_getElem? (i := 49) rfl) rfl
theorem zw_349 : (Jvm.Cond.fieldLink "FigureCaller" (68 : Nat) "FigureCaller" "start" "[I") ∈ zWSL := zin_2 (List.mem_of_getElem? (i := 50) rfl) rfl
theorem zw_350 : (Jvm.Cond.fieldLink "FigureCaller" (129 : Nat) "FigureCaller" "danced" "I") ∈ zWSL := zin_2 (List.mem_of_getElem? (i := 51) rfl) rfl
theorem zw_351 : (Jvm.Cond.fieldLink "FigureCaller" (71 : Nat) "FigureCaller" "latestFault" "I") ∈ zWSL := zin_2 (List.mem_of_getElem? (i := 52) rfl) rfl
theorem zw_352 : (Jvm.Cond.fieldLink "FigureCaller" (126 : Nat) "FigureCaller" "latestClash" "I") ∈ zWSL := zin_2 (List.mem_of_getElem? (i := 53) rfl) rfl
theorem zw_353 : (Jvm.Cond.laysFinal "FigureCaller" "FigureCaller" "text" "LFigureCaller$Text;") ∈ zWSL := zin_2 (List.mem_of_getElem? (i := 54) rfl) rfl
theorem zw_355 : (Jvm.Cond.laysFinal "FigureCaller" "FigureCaller" "book" "LFigureCaller$Book;") ∈ zWSL := zin_2 (List.mem_of_getElem? (i := 56) rfl) rfl
theorem zw_357 : (Jvm.Cond.laysFinal "FigureCaller" "FigureCaller" "reader" "LFigureCaller$Reader;") ∈ zWSL := zin_2 (List.mem_of_getElem? (i := 58) rfl) rfl
theorem zw_359 : (Jvm.Cond.laysFinal "FigureCaller" "FigureCaller" "dancing" "LFigureCaller$Dancing;") ∈ zWSL := zin_2 (List.mem_of_getElem? (i := 60) rfl) rfl
theorem zw_361 : (Jvm.Cond.laysFinal "FigureCaller" "FigureCaller" "wayHome" "LFigureCaller$WayHome;") ∈ zWSL := zin_2 (List.mem_of_getElem? (i := 62) rfl) rfl
theorem zw_363 : (Jvm.Cond.laysFinal "FigureCaller" "FigureCaller" "journal" "[LFigureCaller$Track;") ∈ zWSL := zin_2 (List.mem_of_getElem? (i := 64) rfl) rfl
theorem zw_365 : (Jvm.Cond.laysFinal "FigureCaller" "FigureCaller" "trial" "LFigureCaller$Track;") ∈ zWSL := zin_2 (List.mem_of_getElem? (i := 66) rfl) rfl
theorem zw_367 : (Jvm.Cond.laysFinal "FigureCaller" "FigureCaller" "otherTrial" "LFigureCaller$Track;") ∈ zWSL := zin_2 (List.mem_of_getElem? (i := 68) rfl) rfl
theorem zw_369 : (Jvm.Cond.laysFinal "FigureCaller" "FigureCaller" "places" "[I") ∈ zWSL := zin_2 (List.mem_of_getElem? (i := 70) rfl) rfl
theorem zw_371 : (Jvm.Cond.laysFinal "FigureCaller" "FigureCaller" "start" "[I") ∈ zWSL := zin_2 (List.mem_of_getElem? (i := 72) rfl) rfl
theorem zw_373 : (Jvm.Cond.lays "FigureCaller" "FigureCaller" "danced" "I") ∈ zWSL := zin_2 (List.mem_of_getElem? (i := 74) rfl) rfl
theorem zw_375 : (Jvm.Cond.lays "FigureCaller" "FigureCaller" "latestFault" "I") ∈ zWSL := zin_2 (List.mem_of_getElem? (i := 76) rfl) rfl
theorem zw_377 : (Jvm.Cond.lays "FigureCaller" "FigureCaller" "latestClash" "I") ∈ zWSL := zin_2 (List.mem_of_getElem? (i := 78) rfl) rfl
theorem zw_380 : (Jvm.Cond.methodLink "FigureCallerLaw" (59 : Nat) ({ cls := "FigureCaller", name := "write", desc := "(J)Z" } : Jvm.MethodName)) ∈ zWSL := zin_2 (List.mem_of_getElem? (i := 81) rfl) rfl
theorem zw_381 : (Jvm.Cond.instanceMethod ({ cls := "FigureCaller", name := "write", desc := "(J)Z" } : Jvm.MethodName)) ∈ zWSL := zin_2 (List.mem_of_getElem? (i := 82) rfl) rfl
theorem zw_382 : (Jvm.Cond.selects "FigureCaller" ({ cls := "FigureCaller", name := "write", desc := "(J)Z" } : Jvm.MethodName) ({ cls := "FigureCaller", name := "write", desc := "(J)Z" } : Jvm.MethodName)) ∈ zWSL := zin_2 (List.mem_of_getElem? (i := 83) rfl) rfl
theorem zw_383 : (Jvm.Cond.code ({ cls := "FigureCaller", name := "write", desc := "(J)Z" } : Jvm.MethodName) prog_1_method_2_code (3 : Nat) (Option.some Jvm.ClassFile.FieldType.boolean)) ∈ zWSL := zin_2 (List.mem_of_getElem? (i := 84) rfl) rfl
theorem zw_384 : (Jvm.Cond.methodLink "FigureCaller" (79 : Nat) ({ cls := "FigureCaller$Text", name := "add", desc := "(J)Z" } : Jvm.MethodName)) ∈ zWSL := zin_2 (List.mem_of_getElem? (i := 85) rfl) rfl
theorem zw_385 : (Jvm.Cond.instanceMethod ({ cls := "FigureCaller$Text", name := "add", desc := "(J)Z" } : Jvm.MethodName)) ∈ zWSL := zin_2 (List.mem_of_getElem? (i := 86) rfl) rfl
theorem zw_386 : (Jvm.Cond.selects "FigureCaller$Text" ({ cls := "FigureCaller$Text", name := "add", desc := "(J)Z" } : Jvm.MethodName) ({ cls := "FigureCaller$Text", name := "add", desc := "(J)Z" } : Jvm.MethodName)) ∈ zWSL := zin_2 (List.mem_of_getElem? (i := 87) rfl) rfl
theorem zw_387 : (Jvm.Cond.code ({ cls := "FigureCaller$Text", name := "add", desc := "(J)Z" } : Jvm.MethodName) prog_8_method_2_code (5 : Nat) (Option.some Jvm.ClassFile.FieldType.boolean)) ∈ zWSL := zin_2 (List.mem_of_getElem? (i := 88) rfl) rfl
theorem zw_388 : (Jvm.Cond.methodLink "FigureCaller$Text" (15 : Nat) ({ cls := "FigureCaller$Text", name := "fits", desc := "(J)Z" } : Jvm.MethodName)) ∈ zWSL := zin_2 (List.mem_of_getElem? (i := 89) rfl) rfl
theorem zw_390 : (Jvm.Cond.instanceMethod ({ cls := "FigureCaller$Text", name := "fits", desc := "(J)Z" } : Jvm.MethodName)) ∈ zWSL := zin_2 (List.mem_of_getElem? (i := 91) rfl) rfl
theorem zw_391 : (Jvm.Cond.code ({ cls := "FigureCaller$Text", name := "fits", desc := "(J)Z" } : Jvm.MethodName) prog_8_method_4_code (6 : Nat) (Option.some Jvm.ClassFile.FieldType.boolean)) ∈ zWSL := zin_2 (List.mem_of_getElem? (i := 92) rfl) rfl
theorem zw_392 : (Jvm.Cond.methodLink "FigureCaller$Text" (19 : Nat) ({ cls := "FigureCaller$Text", name := "byteAt", desc := "(JI)I" } : Jvm.MethodName)) ∈ zWSL := zin_2 (List.mem_of_getElem? (i := 93) rfl) rfl
theorem zw_393 : (Jvm.Cond.static ({ cls := "FigureCaller$Text", name := "byteAt", desc := "(JI)I" } : Jvm.MethodName)) ∈ zWSL := zin_2 (List.mem_of_getElem? (i := 94) rfl) rfl
theorem zw_394 : (Jvm.Cond.code ({ cls := "FigureCaller$Text", name := "byteAt", desc := "(JI)I" } : Jvm.MethodName) prog_8_method_5_code (3 : Nat) (Option.some Jvm.ClassFile.FieldType.int)) ∈ zWSL := zin_2 (List.mem_of_getElem? (i := 95) rfl) rfl
theorem zw_395 : (Jvm.Cond.methodLink "FigureCallerLaw" (64 : Nat) ({ cls := "FigureCaller", name := "wipe", desc := "()I" } : Jvm.MethodName)) ∈ zWSL := zin_2 (List.mem_of_getElem? (i := 96) rfl) rfl
theorem zw_396 : (Jvm.Cond.instanceMethod ({ cls := "FigureCaller", name := "wipe", desc := "()I" } : Jvm.MethodName)) ∈ zWSL := zin_2 (List.mem_of_getElem? (i := 97) rfl) rfl
theorem zw_397 : (Jvm.Cond.selects "FigureCaller" ({ cls := "FigureCaller", name := "wipe", desc := "()I" } : Jvm.MethodName) ({ cls := "FigureCaller", name := "wipe", desc := "()I" } : Jvm.MethodName)) ∈ zWSL := zin_2 (List.mem_of_getElem? (i := 98) rfl) rfl
theorem zw_398 : (Jvm.Cond.code ({ cls := "FigureCaller", name := "wipe", desc := "()I" } : Jvm.MethodName) prog_1_method_3_code (1 : Nat) (Option.some Jvm.ClassFile.FieldType.int)) ∈ zWSL := zin_2 (List.mem_of_getElem? (i := 99) rfl) rfl
theorem zw_399 : (Jvm.Cond.methodLink "FigureCaller" (83 : Nat) ({ cls := "FigureCaller$Text", name := "clear", desc := "()I" } : Jvm.MethodName)) ∈ zWSL := zin_2 (List.mem_of_getElem? (i := 100) rfl) rfl
theorem zw_400 : (Jvm.Cond.instanceMethod ({ cls := "FigureCaller$Text", name := "clear", desc := "()I" } : Jvm.MethodName)) ∈ zWSL := zin_2 (List.mem_of_getElem? (i := 101) rfl) rfl
theorem zw_401 : (Jvm.Cond.selects "FigureCaller$Text" ({ cls := "FigureCaller$Text", name := "clear", desc := "()I" } : Jvm.MethodName) ({ cls := "FigureCaller$Text", name := "clear", desc := "()I" } : Jvm.MethodName)) ∈ zWSL := zin_2 (List.mem_of_getElem? (i := 102) rfl) rfl
theorem zw_402 : (Jvm.Cond.code ({ cls := "FigureCaller$Text", name := "clear", desc := "()I" } : Jvm.MethodName) prog_8_method_3_code (2 : Nat) (Option.some Jvm.ClassFile.FieldType.int)) ∈ zWSL := zin_2 (List.mem_of_getElem? (i := 103) rfl) rfl
theorem zw_403 : (Jvm.Cond.methodLink "FigureCallerLaw" (74 : Nat) ({ cls := "FigureCaller", name := "fault", desc := "()I" } : Jvm.MethodName)) ∈ zWSL := zin_2 (List.mem_of_getElem? (i := 104) rfl) rfl
theorem zw_404 : (Jvm.Cond.instanceMethod ({ cls := "FigureCaller", name := "fault", desc := "()I" } : Jvm.MethodName)) ∈ zWSL := zin_2 (List.mem_of_getElem? (i := 105) rfl) rfl
theorem zw_405 : (Jvm.Cond.selects "FigureCaller" ({ cls := "FigureCaller", name := "fault", desc := "()I" } : Jvm.MethodName) ({ cls := "FigureCaller", name := "fault", desc := "()I" } : Jvm.MethodName)) ∈ zWSL := zin_2 (List.mem_of_getElem? (i := 106) rfl) rfl
theorem zw_406 : (Jvm.Cond.code ({ cls := "FigureCaller", name := "fault", desc := "()I" } : Jvm.MethodName) prog_1_method_5_code (1 : Nat) (Option.some Jvm.ClassFile.FieldType.int)) ∈ zWSL := zin_2 (List.mem_of_getElem? (i := 107) rfl) rfl
theorem zw_407 : (Jvm.Cond.methodLink "FigureCallerLaw" (88 : Nat) ({ cls := "FigureCaller", name := "clash", desc := "()I" } : Jvm.MethodName)) ∈ zWSL := zin_2 (List.mem_of_getElem? (i := 108) rfl) rfl
theorem zw_408 : (Jvm.Cond.instanceMethod ({ cls := "FigureCaller", name := "clash", desc := "()I" } : Jvm.MethodName)) ∈ zWSL := zin_2 (List.mem_of_getElem? (i := 109) rfl) rfl
theorem zw_409 : (Jvm.Cond.selects "FigureCaller" ({ cls := "FigureCaller", name := "clash", desc := "()I" } : Jvm.MethodName) ({ cls := "FigureCaller", name := "clash", desc := "()I" } : Jvm.MethodName)) ∈ zWSL := zin_2 (List.mem_of_getElem? (i := 110) rfl) rfl
theorem zw_410 : (Jvm.Cond.code ({ cls := "FigureCaller", name := "clash", desc := "()I" } : Jvm.MethodName) prog_1_method_9_code (1 : Nat) (Option.some Jvm.ClassFile.FieldType.int)) ∈ zWSL := zin_2 (List.mem_of_getElem? (i := 111) rfl) rfl
theorem zw_411 : (Jvm.Cond.methodLink "FigureCallerLaw" (95 : Nat) ({ cls := "FigureCaller", name := "home", desc := "()I" } : Jvm.MethodName)) ∈ zWSL := zin_2 (List.mem_of_getElem? (i := 112) rfl) rfl
theorem zw_412 : (Jvm.Cond.instanceMethod ({ cls := "FigureCaller", name := "home", desc := "()I" } : Jvm.MethodName)) ∈ zWSL := zin_2 (List.mem_of_getElem? (i := 113) rfl) rfl
theorem zw_413 : (Jvm.Cond.selects "FigureCaller" ({ cls := "FigureCaller", name := "home", desc := "()I" } : Jvm.MethodName) ({ cls := "FigureCaller", name := "home", desc := "()I" } : Jvm.MethodName)) ∈ zWSL := zin_2 (List.mem_of_getElem? (i := 114) rfl) rfl
theorem zw_414 : (Jvm.Cond.code ({ cls := "FigureCaller", name := "home", desc := "()I" } : Jvm.MethodName) prog_1_method_11_code (2 : Nat) (Option.some Jvm.ClassFile.FieldType.int)) ∈ zWSL := zin_2 (List.mem_of_getElem? (i := 115) rfl) rfl
theorem zw_415 : (Jvm.Cond.methodLink "FigureCallerLaw" (109 : Nat) ({ cls := "FigureCaller", name := "shape", desc := "()I" } : Jvm.MethodName)) ∈ zWSL := zin_2 (List.mem_of_getElem? (i := 116) rfl) rfl
theorem zw_416 : (Jvm.Cond.instanceMethod ({ cls := "FigureCaller", name := "shape", desc := "()I" } : Jvm.MethodName)) ∈ zWSL := zin_2 (List.mem_of_getElem? (i := 117) rfl) rfl
theorem zw_417 : (Jvm.Cond.selects "FigureCaller" ({ cls := "FigureCaller", name := "shape", desc := "()I" } : Jvm.MethodName) ({ cls := "FigureCaller", name := "shape", desc := "()I" } : Jvm.MethodName)) ∈ zWSL := zin_2 (List.mem_of_getElem? (i := 118) rfl) rfl
theorem zw_418 : (Jvm.Cond.code ({ cls := "FigureCaller", name := "shape", desc := "()I" } : Jvm.MethodName) prog_1_method_15_code (1 : Nat) (Option.some Jvm.ClassFile.FieldType.int)) ∈ zWSL := zin_2 (List.mem_of_getElem? (i := 119) rfl) rfl
theorem zw_419 : (Jvm.Cond.methodLink "FigureCaller" (165 : Nat) ({ cls := "FigureCaller$Shape", name := "of", desc := "([I)I" } : Jvm.MethodName)) ∈ zWSL := zin_2 (List.mem_of_getElem? (i := 120) rfl) rfl
theorem zw_420 : (Jvm.Cond.static ({ cls := "FigureCaller$Shape", name := "of", desc := "([I)I" } : Jvm.MethodName)) ∈ zWSL := zin_2 (List.mem_of_getElem? (i := 121) rfl) rfl
theorem zw_421 : (Jvm.Cond.code ({ cls := "FigureCaller$Shape", name := "of", desc := "([I)I" } : Jvm.MethodName) prog_7_method_2_code (7 : Nat) (Option.some Jvm.ClassFile.FieldType.int)) ∈ zWSL := zin_2 (List.mem_of_getElem? (i := 122) rfl) rfl
theorem zw_422 : (Jvm.Cond.methodLink "FigureCaller$Shape" (9 : Nat) ({ cls := "java/lang/Math", name := "min", desc := "(II)I" } : Jvm.MethodName)) ∈ zWSL := zin_2 (List.mem_of_getElem? (i := 123) rfl) rfl
theorem zw_423 : (Jvm.Cond.static ({ cls := "java/lang/Math", name := "min", desc := "(II)I" } : Jvm.MethodName)) ∈ zWSL := zin_2 (List.mem_of_getElem? (i := 124) rfl) rfl
theorem zw_424 : (Jvm.Cond.code ({ cls := "java/lang/Math", name := "min", desc := "(II)I" } : Jvm.MethodName) prog_18_method_69_code (2 : Nat) (Option.some Jvm.ClassFile.FieldType.int)) ∈ zWSL := zin_2 (List.mem_of_getElem? (i := 125) rfl) rfl
theorem zw_425 : (Jvm.Cond.methodLink "FigureCaller$Shape" (15 : Nat) ({ cls := "java/lang/Math", name := "max", desc := "(II)I" } : Jvm.MethodName)) ∈ zWSL := zin_2 (List.mem_of_getElem? (i := 126) rfl) rfl
theorem zw_426 : (Jvm.Cond.static ({ cls := "java/lang/Math", name := "max", desc := "(II)I" } : Jvm.MethodName)) ∈ zWSL := zin_2 (List.mem_of_getElem? (i := 127) rfl) rfl
theorem zw_427 : (Jvm.Cond.code ({ cls := "java/lang/Math", name := "max", desc := "(II)I" } : Jvm.MethodName) prog_18_method_65_code (2 : Nat) (Option.some Jvm.ClassFile.FieldType.int)) ∈ zWSL := zin_2 (List.mem_of_getElem? (i := 128) rfl) rfl
theorem zw_428 : (Jvm.Cond.methodLink "FigureCaller$Shape" (20 : Nat) ({ cls := "FigureCaller$Shape", name := "countWithEdges", desc := "([IIIII)I" } : Jvm.MethodName)) ∈ zWSL := zin_2 (List.mem_of_getElem? (i := 129) rfl) rfl
theorem zw_429 : (Jvm.Cond.static ({ cls := "FigureCaller$Shape", name := "countWithEdges", desc := "([IIIII)I" } : Jvm.MethodName)) ∈ zWSL := zin_2 (List.mem_of_getElem? (i := 130) rfl) rfl
theorem zw_430 : (Jvm.Cond.code ({ cls := "FigureCaller$Shape", name := "countWithEdges", desc := "([IIIII)I" } : Jvm.MethodName) prog_7_method_3_code (10 : Nat) (Option.some Jvm.ClassFile.FieldType.int)) ∈ zWSL := zin_2 (List.mem_of_getElem? (i := 131) rfl) rfl
theorem zw_431 : (Jvm.Cond.methodLink "FigureCallerLaw" (117 : Nat) ({ cls := "FigureCaller", name := "resolve", desc := "()I" } : Jvm.MethodName)) ∈ zWSL := zin_2 (List.mem_of_getElem? (i := 132) rfl) rfl
theorem zw_432 : (Jvm.Cond.instanceMethod ({ cls := "FigureCaller", name := "resolve", desc := "()I" } : Jvm.MethodName)) ∈ zWSL := zin_2 (List.mem_of_getElem? (i := 133) rfl) rfl
theorem zw_433 : (Jvm.Cond.selects "FigureCaller" ({ cls := "FigureCaller", name := "resolve", desc := "()I" } : Jvm.MethodName) ({ cls := "FigureCaller", name := "resolve", desc := "()I" } : Jvm.MethodName)) ∈ zWSL := zin_2 (List.mem_of_getElem? (i := 134) rfl) rfl
theorem zw_434 : (Jvm.Cond.code ({ cls := "FigureCaller", name := "resolve", desc := "()I" } : Jvm.MethodName) prog_1_method_17_code (1 : Nat) (Option.some Jvm.ClassFile.FieldType.int)) ∈ zWSL := zin_2 (List.mem_of_getElem? (i := 135) rfl) rfl
theorem zw_435 : (Jvm.Cond.methodLink "FigureCaller" (181 : Nat) ({ cls := "FigureCaller$WayHome", name := "search", desc := "([ILFigureCaller$Track;)I" } : Jvm.MethodName)) ∈ zWSL := zin_2 (List.mem_of_getElem? (i := 136) rfl) rfl
theorem zw_436 : (Jvm.Cond.instanceMethod ({ cls := "FigureCaller$WayHome", name := "search", desc := "([ILFigureCaller$Track;)I" } : Jvm.MethodName)) ∈ zWSL := zin_2 (List.mem_of_getElem? (i := 137) rfl) rfl
theorem zw_437 : (Jvm.Cond.selects "FigureCaller$WayHome" ({ cls := "FigureCaller$WayHome", name := "search", desc := "([ILFigureCaller$Track;)I" } : Jvm.MethodName) ({ cls := "FigureCaller$WayHome", name := "search", desc := "([ILFigureCaller$Track;)I" } : Jvm.MethodName)) ∈ zWSL := zin_2 (List.mem_of_getElem? (i := 138) rfl) rfl
theorem zw_438 : (Jvm.Cond.code ({ cls := "FigureCaller$WayHome", name := "search", desc := "([ILFigureCaller$Track;)I" } : Jvm.MethodName) prog_11_method_2_code (7 : Nat) (Option.some Jvm.ClassFile.FieldType.int)) ∈ zWSL := zin_2 (List.mem_of_getElem? (i := 139) rfl) rfl
theorem zw_439 : (Jvm.Cond.methodLinkNest "FigureCaller$WayHome" (36 : Nat) ({ cls := "FigureCaller", name := "isHome", desc := "([II)Z" } : Jvm.MethodName) "FigureCaller") ∈ zWSL := zin_2 (List.mem_of_getElem? (i := 140) rfl) rfl
theorem zw_440 : (Jvm.Cond.static ({ cls := "FigureCaller", name := "isHome", desc := "([II)Z" } : Jvm.MethodName)) ∈ zWSL := zin_2 (List.mem_of_getElem? (i := 141) rfl) rfl
theorem zw_441 : (Jvm.Cond.code ({ cls := "FigureCaller", name := "isHome", desc := "([II)Z" } : Jvm.MethodName) prog_1_method_24_code (3 : Nat) (Option.some Jvm.ClassFile.FieldType.boolean)) ∈ zWSL := zin_2 (List.mem_of_getElem? (i := 142) rfl) rfl
theorem zw_442 : (Jvm.Cond.methodLink "FigureCaller$WayHome" (40 : Nat) ({ cls := "java/lang/System", name := "arraycopy", desc := "(Ljava/lang/Object;ILjava/lang/Object;II)V" } : Jvm.MethodName)) ∈ zWSL := zin_2 (List.mem_of_getElem? (i := 143) rfl) rfl
theorem zw_443 : (Jvm.Cond.static ({ cls := "java/lang/System", name := "arraycopy", desc := "(Ljava/lang/Object;ILjava/lang/Object;II)V" } : Jvm.MethodName)) ∈ zWSL := zin_2 (List.mem_of_getElem? (i := 144) rfl) rfl
theorem zw_444 : (Jvm.Cond.native ({ cls := "java/lang/System", name := "arraycopy", desc := "(Ljava/lang/Object;ILjava/lang/Object;II)V" } : Jvm.MethodName)) ∈ zWSL := zin_2 (List.mem_of_getElem? (i := 145) rfl) rfl
theorem zw_445 : (Jvm.Cond.methodLink "FigureCaller$WayHome" (49 : Nat) ({ cls := "FigureCaller$WayHome", name := "branches", desc := "(IILFigureCaller$Track;)Z" } : Jvm.MethodName)) ∈ zWSL := zin_2 (List.mem_of_getElem? (i := 146) rfl) rfl
theorem zw_447 : (Jvm.Cond.instanceMethod ({ cls := "FigureCaller$WayHome", name := "branches", desc := "(IILFigureCaller$Track;)Z" } : Jvm.MethodName)) ∈ zWSL := zin_2 (List.mem_of_getElem? (i := 148) rfl) rfl
theorem zw_448 : (Jvm.Cond.code ({ cls := "FigureCaller$WayHome", name := "branches", desc := "(IILFigureCaller$Track;)Z" } : Jvm.MethodName) prog_11_method_3_code (5 : Nat) (Option.some Jvm.ClassFile.FieldType.boolean)) ∈ zWSL := zin_2 (List.mem_of_getElem? (i := 149) rfl) rfl
theorem zw_449 : (Jvm.Cond.methodLink "FigureCaller$WayHome" (68 : Nat) ({ cls := "FigureCaller$Track", name := "begin", desc := "([II)V" } : Jvm.MethodName)) ∈ zWSL := zin_2 (List.mem_of_getElem? (i := 150) rfl) rfl
theorem zw_450 : (Jvm.Cond.instanceMethod ({ cls := "FigureCaller$Track", name := "begin", desc := "([II)V" } : Jvm.MethodName)) ∈ zWSL := zin_2 (List.mem_of_getElem? (i := 151) rfl) rfl
theorem zw_451 : (Jvm.Cond.selects "FigureCaller$Track" ({ cls := "FigureCaller$Track", name := "begin", desc := "([II)V" } : Jvm.MethodName) ({ cls := "FigureCaller$Track", name := "begin", desc := "([II)V" } : Jvm.MethodName)) ∈ zWSL := zin_2 (List.mem_of_getElem? (i := 152) rfl) rfl
theorem zw_452 : (Jvm.Cond.code ({ cls := "FigureCaller$Track", name := "begin", desc := "([II)V" } : Jvm.MethodName) prog_10_method_2_code (3 : Nat) (Option.none : Option Jvm.ClassFile.FieldType)) ∈ zWSL := zin_2 (List.mem_of_getElem? (i := 153) rfl) rfl
theorem zw_453 : (Jvm.Cond.methodLink "FigureCaller$Track" (15 : Nat) ({ cls := "java/lang/System", name := "arraycopy", desc := "(Ljava/lang/Object;ILjava/lang/Object;II)V" } : Jvm.MethodName)) ∈ zWSL := zin_2 (List.mem_of_getElem? (i := 154) rfl) rfl
theorem zw_454 : (Jvm.Cond.methodLink "FigureCaller$WayHome" (74 : Nat) ({ cls := "FigureCaller$Dancing", name := "follow", desc := "(LFigureCaller$Track;LFigureCaller$Figure;Z)I" } : Jvm.MethodName)) ∈ zWSL := zin_2 (List.mem_of_getElem? (i := 155) rfl) rfl
theorem zw_455 : (Jvm.Cond.instanceMethod ({ cls := "FigureCaller$Dancing", name := "follow", desc := "(LFigureCaller$Track;LFigureCaller$Figure;Z)I" } : Jvm.MethodName)) ∈ zWSL := zin_2 (List.mem_of_getElem? (i := 156) rfl) rfl
theorem zw_456 : (Jvm.Cond.selects "FigureCaller$Dancing" ({ cls := "FigureCaller$Dancing", name := "follow", desc := "(LFigureCaller$Track;LFigureCaller$Figure;Z)I" } : Jvm.MethodName) ({ cls := "FigureCaller$Dancing", name := "follow", desc := "(LFigureCaller$Track;LFigureCaller$Figure;Z)I" } : Jvm.MethodName)) ∈ zWSL := zin_2 (List.mem_of_getElem? (i := 157) rfl) rfl
theorem zw_457 : (Jvm.Cond.code ({ cls := "FigureCaller$Dancing", name := "follow", desc := "(LFigureCaller$Track;LFigureCaller$Figure;Z)I" } : Jvm.MethodName) prog_3_method_2_code (6 : Nat) (Option.some Jvm.ClassFile.FieldType.int)) ∈ zWSL := zin_2 (List.mem_of_getElem? (i := 158) rfl) rfl
theorem zw_458 : (Jvm.Cond.methodLink "FigureCaller$Dancing" (32 : Nat) ({ cls := "FigureCaller$Dancing", name := "giveAtoms", desc := "(LFigureCaller$Track;LFigureCaller$Figure;II)V" } : Jvm.MethodName)) ∈ zWSL := zin_2 (List.mem_of_getElem? (i := 159) rfl) rfl
theorem zw_460 : (Jvm.Cond.instanceMethod ({ cls := "FigureCaller$Dancing", name := "giveAtoms", desc := "(LFigureCaller$Track;LFigureCaller$Figure;II)V" } : Jvm.MethodName)) ∈ zWSL := zin_2 (List.mem_of_getElem? (i := 161) rfl) rfl
theorem zw_461 : (Jvm.Cond.code ({ cls := "FigureCaller$Dancing", name := "giveAtoms", desc := "(LFigureCaller$Track;LFigureCaller$Figure;II)V" } : Jvm.MethodName) prog_3_method_3_code (9 : Nat) (Option.none : Option Jvm.ClassFile.FieldType)) ∈ zWSL := zin_2 (List.mem_of_getElem? (i := 162) rfl) rfl
theorem zw_462 : (Jvm.Cond.methodLink "FigureCaller$Dancing" (63 : Nat) ({ cls := "FigureCaller$Selection", name := "chosen", desc := "(I[II)I" } : Jvm.MethodName)) ∈ zWSL := zin_2 (List.mem_of_getElem? (i := 163) rfl) rfl
theorem zw_463 : (Jvm.Cond.instanceMethod ({ cls := "FigureCaller$Selection", name := "chosen", desc := "(I[II)I" } : Jvm.MethodName)) ∈ zWSL := zin_2 (List.mem_of_getElem? (i := 164) rfl) rfl
theorem zw_464 : (Jvm.Cond.selects "FigureCaller$Selection" ({ cls := "FigureCaller$Selection", name := "chosen", desc := "(I[II)I" } : Jvm.MethodName) ({ cls := "FigureCaller$Selection", name := "chosen", desc := "(I[II)I" } : Jvm.MethodName)) ∈ zWSL := zin_2 (List.mem_of_getElem? (i := 165) rfl) rfl
theorem zw_465 : (Jvm.Cond.code ({ cls := "FigureCaller$Selection", name := "chosen", desc := "(I[II)I" } : Jvm.MethodName) prog_6_method_2_code (4 : Nat) (Option.some Jvm.ClassFile.FieldType.int)) ∈ zWSL := zin_2 (List.mem_of_getElem? (i := 166) rfl) rfl
theorem zw_466 : (Jvm.Cond.methodLink "FigureCaller$Selection" (15 : Nat) ({ cls := "FigureCaller$Selection", name := "centres", desc := "([II)I" } : Jvm.MethodName)) ∈ zWSL := zin_2 (List.mem_of_getElem? (i := 167) rfl) rfl
theorem zw_468 : (Jvm.Cond.instanceMethod ({ cls := "FigureCaller$Selection", name := "centres", desc := "([II)I" } : Jvm.MethodName)) ∈ zWSL := zin_2 (List.mem_of_getElem? (i := 169) rfl) rfl
theorem zw_469 : (Jvm.Cond.code ({ cls := "FigureCaller$Selection", name := "centres", desc := "([II)I" } : Jvm.MethodName) prog_6_method_4_code (7 : Nat) (Option.some Jvm.ClassFile.FieldType.int)) ∈ zWSL := zin_2 (List.mem_of_getElem? (i := 170) rfl) rfl
theorem zw_470 : (Jvm.Cond.methodLink "FigureCaller$Selection" (26 : Nat) ({ cls := "FigureCaller$Selection", name := "measure", desc := "([II)V" } : Jvm.MethodName)) ∈ zWSL := zin_2 (List.mem_of_getElem? (i := 171) rfl) rfl
theorem zw_472 : (Jvm.Cond.instanceMethod ({ cls := "FigureCaller$Selection", name := "measure", desc := "([II)V" } : Jvm.MethodName)) ∈ zWSL := zin_2 (List.mem_of_getElem? (i := 173) rfl) rfl
theorem zw_473 : (Jvm.Cond.code ({ cls := "FigureCaller$Selection", name := "measure", desc := "([II)V" } : Jvm.MethodName) prog_6_method_5_code (9 : Nat) (Option.none : Option Jvm.ClassFile.FieldType)) ∈ zWSL := zin_2 (List.mem_of_getElem? (i := 174) rfl) rfl
theorem zw_474 : (Jvm.Cond.methodLink "FigureCaller$Selection" (19 : Nat) ({ cls := "FigureCaller$Selection", name := "free", desc := "([III)I" } : Jvm.MethodName)) ∈ zWSL := zin_2 (List.mem_of_getElem? (i := 175) rfl) rfl
theorem zw_475 : (Jvm.Cond.static ({ cls := "FigureCaller$Selection", name := "free", desc := "([III)I" } : Jvm.MethodName)) ∈ zWSL := zin_2 (List.mem_of_getElem? (i := 176) rfl) rfl
theorem zw_476 : (Jvm.Cond.code ({ cls := "FigureCaller$Selection", name := "free", desc := "([III)I" } : Jvm.MethodName) prog_6_method_6_code (8 : Nat) (Option.some Jvm.ClassFile.FieldType.int)) ∈ zWSL := zin_2 (List.mem_of_getElem? (i := 177) rfl) rfl
theorem zw_477 : (Jvm.Cond.methodLink "FigureCaller$Selection" (30 : Nat) ({ cls := "FigureCaller$Selection", name := "liesTowards", desc := "(III)Z" } : Jvm.MethodName)) ∈ zWSL := zin_2 (List.mem_of_getElem? (i := 178) rfl) rfl
theorem zw_478 : (Jvm.Cond.static ({ cls := "FigureCaller$Selection", name := "liesTowards", desc := "(III)Z" } : Jvm.MethodName)) ∈ zWSL := zin_2 (List.mem_of_getElem? (i := 179) rfl) rfl
theorem zw_479 : (Jvm.Cond.code ({ cls := "FigureCaller$Selection", name := "liesTowards", desc := "(III)Z" } : Jvm.MethodName) prog_6_method_7_code (5 : Nat) (Option.some Jvm.ClassFile.FieldType.boolean)) ∈ zWSL := zin_2 (List.mem_of_getElem? (i := 180) rfl) rfl
theorem zw_480 : (Jvm.Cond.methodLink "FigureCaller$Selection" (23 : Nat) ({ cls := "FigureCaller$Selection", name := "facing", desc := "([III)I" } : Jvm.MethodName)) ∈ zWSL := zin_2 (List.mem_of_getElem? (i := 181) rfl) rfl
theorem zw_481 : (Jvm.Cond.static ({ cls := "FigureCaller$Selection", name := "facing", desc := "([III)I" } : Jvm.MethodName)) ∈ zWSL := zin_2 (List.mem_of_getElem? (i := 182) rfl) rfl
theorem zw_482 : (Jvm.Cond.code ({ cls := "FigureCaller$Selection", name := "facing", desc := "([III)I" } : Jvm.MethodName) prog_6_method_3_code (5 : Nat) (Option.some Jvm.ClassFile.FieldType.int)) ∈ zWSL := zin_2 (List.mem_of_getElem? (i := 183) rfl) rfl
theorem zw_483 : (Jvm.Cond.methodLink "FigureCaller$Dancing" (36 : Nat) ({ cls := "FigureCaller$Dancing", name := "exchangeAtoms", desc := "()V" } : Jvm.MethodName)) ∈ zWSL := zin_2 (List.mem_of_getElem? (i := 184) rfl) rfl
theorem zw_485 : (Jvm.Cond.instanceMethod ({ cls := "FigureCaller$Dancing", name := "exchangeAtoms", desc := "()V" } : Jvm.MethodName)) ∈ zWSL := zin_2 (List.mem_of_getElem? (i := 186) rfl) rfl
theorem zw_486 : (Jvm.Cond.code ({ cls := "FigureCaller$Dancing", name := "exchangeAtoms", desc := "()V" } : Jvm.MethodName) prog_3_method_4_code (2 : Nat) (Option.none : Option Jvm.ClassFile.FieldType)) ∈ zWSL := zin_2 (List.mem_of_getElem? (i := 187) rfl) rfl
theorem zw_487 : (Jvm.Cond.fieldLink "FigureCaller$Dancing" (68 : Nat) "FigureCaller$Dancing" "EXCHANGED" "[I") ∈ zWSL := zin_2 (List.mem_of_getElem? (i := 188) rfl) rfl
theorem zw_489 : (Jvm.Cond.methodLink "FigureCaller$Dancing" (47 : Nat) ({ cls := "FigureCaller$Dancing", name := "step", desc := "([II)I" } : Jvm.MethodName)) ∈ zWSL := zin_2 (List.mem_of_getElem? (i := 190) rfl) rfl
theorem zw_491 : (Jvm.Cond.instanceMethod ({ cls := "FigureCaller$Dancing", name := "step", desc := "([II)I" } : Jvm.MethodName)) ∈ zWSL := zin_2 (List.mem_of_getElem? (i := 192) rfl) rfl
theorem zw_492 : (Jvm.Cond.code ({ cls := "FigureCaller$Dancing", name := "step", desc := "([II)I" } : Jvm.MethodName) prog_3_method_5_code (7 : Nat) (Option.some Jvm.ClassFile.FieldType.int)) ∈ zWSL := zin_2 (List.mem_of_getElem? (i := 193) rfl) rfl
theorem zw_493 : (Jvm.Cond.methodLink "FigureCaller$Dancing" (71 : Nat) ({ cls := "FigureCaller$Dancing", name := "moved", desc := "(II)I" } : Jvm.MethodName)) ∈ zWSL := zin_2 (List.mem_of_getElem? (i := 194) rfl) rfl
theorem zw_494 : (Jvm.Cond.static ({ cls := "FigureCaller$Dancing", name := "moved", desc := "(II)I" } : Jvm.MethodName)) ∈ zWSL := zin_2 (List.mem_of_getElem? (i := 195) rfl) rfl
theorem zw_495 : (Jvm.Cond.code ({ cls := "FigureCaller$Dancing", name := "moved", desc := "(II)I" } : Jvm.MethodName) prog_3_method_6_code (2 : Nat) (Option.some Jvm.ClassFile.FieldType.int)) ∈ zWSL := zin_2 (List.mem_of_getElem? (i := 196) rfl) rfl
theorem zw_496 : (Jvm.Cond.methodLink "FigureCaller$Dancing" (79 : Nat) ({ cls := "FigureCaller$Dancing", name := "gone", desc := "(II)I" } : Jvm.MethodName)) ∈ zWSL := zin_2 (List.mem_of_getElem? (i := 197) rfl) rfl
theorem zw_497 : (Jvm.Cond.static ({ cls := "FigureCaller$Dancing", name := "gone", desc := "(II)I" } : Jvm.MethodName)) ∈ zWSL := zin_2 (List.mem_of_getElem? (i := 198) rfl) rfl
theorem zw_498 : (Jvm.Cond.code ({ cls := "FigureCaller$Dancing", name := "gone", desc := "(II)I" } : Jvm.MethodName) prog_3_method_8_code (5 : Nat) (Option.some Jvm.ClassFile.FieldType.int)) ∈ zWSL := zin_2 (List.mem_of_getElem? (i := 199) rfl) rfl
theorem zw_499 : (Jvm.Cond.fieldLink "FigureCaller$Dancing" (85 : Nat) "FigureCaller$Dancing" "STRIDES" "[I") ∈ zWSL := zin_2 (List.mem_of_getElem? (i := 200) rfl) rfl
theorem zw_501 : (Jvm.Cond.methodLink "FigureCaller$Dancing" (82 : Nat) ({ cls := "FigureCaller$Dancing", name := "turned", desc := "(II)I" } : Jvm.MethodName)) ∈ zWSL := zin_2 (List.mem_of_getElem? (i := 202) rfl) rfl
theorem zw_502 : (Jvm.Cond.static ({ cls := "FigureCaller$Dancing", name := "turned", desc := "(II)I" } : Jvm.MethodName)) ∈ zWSL := zin_2 (List.mem_of_getElem? (i := 203) rfl) rfl
theorem zw_503 : (Jvm.Cond.code ({ cls := "FigureCaller$Dancing", name := "turned", desc := "(II)I" } : Jvm.MethodName) prog_3_method_7_code (2 : Nat) (Option.some Jvm.ClassFile.FieldType.int)) ∈ zWSL := zin_2 (List.mem_of_getElem? (i := 204) rfl) rfl
theorem zw_504 : (Jvm.Cond.methodLink "FigureCaller$Dancing" (75 : Nat) ({ cls := "FigureCaller$Dancing", name := "isCrossing", desc := "([IIII)Z" } : Jvm.MethodName)) ∈ zWSL := zin_2 (List.mem_of_getElem? (i := 205) rfl) rfl
theorem zw_505 : (Jvm.Cond.static ({ cls := "FigureCaller$Dancing", name := "isCrossing", desc := "([IIII)Z" } : Jvm.MethodName)) ∈ zWSL := zin_2 (List.mem_of_getElem? (i := 206) rfl) rfl
theorem zw_506 : (Jvm.Cond.code ({ cls := "FigureCaller$Dancing", name := "isCrossing", desc := "([IIII)Z" } : Jvm.MethodName) prog_3_method_9_code (10 : Nat) (Option.some Jvm.ClassFile.FieldType.boolean)) ∈ zWSL := zin_2 (List.mem_of_getElem? (i := 207) rfl) rfl
theorem zw_507 : (Jvm.Cond.methodLink "FigureCaller$WayHome" (80 : Nat) ({ cls := "FigureCaller$Track", name := "endsAtHome", desc := "()Z" } : Jvm.MethodName)) ∈ zWSL := zin_2 (List.mem_of_getElem? (i := 208) rfl) rfl
theorem zw_508 : (Jvm.Cond.instanceMethod ({ cls := "FigureCaller$Track", name := "endsAtHome", desc := "()Z" } : Jvm.MethodName)) ∈ zWSL := zin_2 (List.mem_of_getElem? (i := 209) rfl) rfl
theorem zw_509 : (Jvm.Cond.selects "FigureCaller$Track" ({ cls := "FigureCaller$Track", name := "endsAtHome", desc := "()Z" } : Jvm.MethodName) ({ cls := "FigureCaller$Track", name := "endsAtHome", desc := "()Z" } : Jvm.MethodName)) ∈ zWSL := zin_2 (List.mem_of_getElem? (i := 210) rfl) rfl
theorem zw_510 : (Jvm.Cond.code ({ cls := "FigureCaller$Track", name := "endsAtHome", desc := "()Z" } : Jvm.MethodName) prog_10_method_5_code (1 : Nat) (Option.some Jvm.ClassFile.FieldType.boolean)) ∈ zWSL := zin_2 (List.mem_of_getElem? (i := 211) rfl) rfl
theorem zw_511 : (Jvm.Cond.methodLinkNest "FigureCaller$Track" (25 : Nat) ({ cls := "FigureCaller", name := "isHome", desc := "([II)Z" } : Jvm.MethodName) "FigureCaller") ∈ zWSL := zin_2 (List.mem_of_getElem? (i := 212) rfl) rfl
theorem zw_512 : (Jvm.Cond.methodLink "FigureCaller$WayHome" (84 : Nat) ({ cls := "FigureCaller$WayHome", name := "recall", desc := "(III)V" } : Jvm.MethodName)) ∈ zWSL := zin_2 (List.mem_of_getElem? (i := 213) rfl) rfl
theorem zw_514 : (Jvm.Cond.instanceMethod ({ cls := "FigureCaller$WayHome", name := "recall", desc := "(III)V" } : Jvm.MethodName)) ∈ zWSL := zin_2 (List.mem_of_getElem? (i := 215) rfl) rfl
theorem zw_515 : (Jvm.Cond.code ({ cls := "FigureCaller$WayHome", name := "recall", desc := "(III)V" } : Jvm.MethodName) prog_11_method_5_code (6 : Nat) (Option.none : Option Jvm.ClassFile.FieldType)) ∈ zWSL := zin_2 (List.mem_of_getElem? (i := 216) rfl) rfl
theorem zw_516 : (Jvm.Cond.methodLink "FigureCaller$WayHome" (88 : Nat) ({ cls := "FigureCaller$WayHome", name := "addNode", desc := "(IILFigureCaller$Track;)V" } : Jvm.MethodName)) ∈ zWSL := zin_2 (List.mem_of_getElem? (i := 217) rfl) rfl
theorem zw_518 : (Jvm.Cond.instanceMethod ({ cls := "FigureCaller$WayHome", name := "addNode", desc := "(IILFigureCaller$Track;)V" } : Jvm.MethodName)) ∈ zWSL := zin_2 (List.mem_of_getElem? (i := 219) rfl) rfl
theorem zw_519 : (Jvm.Cond.code ({ cls := "FigureCaller$WayHome", name := "addNode", desc := "(IILFigureCaller$Track;)V" } : Jvm.MethodName) prog_11_method_4_code (4 : Nat) (Option.none : Option Jvm.ClassFile.FieldType)) ∈ zWSL := zin_2 (List.mem_of_getElem? (i := 220) rfl) rfl
theorem zw_520 : (Jvm.Cond.methodLink "FigureCaller$WayHome" (95 : Nat) ({ cls := "FigureCaller$Track", name := "copyRow", desc := "(I[II)V" } : Jvm.MethodName)) ∈ zWSL := zin_2 (List.mem_of_getElem? (i := 221) rfl) rfl
theorem zw_521 : (Jvm.Cond.instanceMethod ({ cls := "FigureCaller$Track", name := "copyRow", desc := "(I[II)V" } : Jvm.MethodName)) ∈ zWSL := zin_2 (List.mem_of_getElem? (i := 222) rfl) rfl
theorem zw_522 : (Jvm.Cond.selects "FigureCaller$Track" ({ cls := "FigureCaller$Track", name := "copyRow", desc := "(I[II)V" } : Jvm.MethodName) ({ cls := "FigureCaller$Track", name := "copyRow", desc := "(I[II)V" } : Jvm.MethodName)) ∈ zWSL := zin_2 (List.mem_of_getElem? (i := 223) rfl) rfl
theorem zw_523 : (Jvm.Cond.code ({ cls := "FigureCaller$Track", name := "copyRow", desc := "(I[II)V" } : Jvm.MethodName) prog_10_method_4_code (4 : Nat) (Option.none : Option Jvm.ClassFile.FieldType)) ∈ zWSL := zin_2 (List.mem_of_getElem? (i := 224) rfl) rfl
theorem zw_524 : (Jvm.Cond.methodLink "FigureCallerLaw" (68 : Nat) ({ cls := "FigureCallerLaw", name := "define", desc := "(LFigureCaller;[J)I" } : Jvm.MethodName)) ∈ zWSL := zin_2 (List.mem_of_getElem? (i := 225) rfl) rfl
theorem zw_525 : (Jvm.Cond.static ({ cls := "FigureCallerLaw", name := "define", desc := "(LFigureCaller;[J)I" } : Jvm.MethodName)) ∈ zWSL := zin_2 (List.mem_of_getElem? (i := 226) rfl) rfl
theorem zw_526 : (Jvm.Cond.codeWith ({ cls := "FigureCallerLaw", name := "define", desc := "(LFigureCaller;[J)I" } : Jvm.MethodName) method_3_code (3 : Nat) (Option.some Jvm.ClassFile.FieldType.int) [((0 : Nat), (8 : Nat), (11 : Nat), (13 : Nat)), ((0 : Nat), (8 : Nat), (14 : Nat), (15 : Nat))]) ∈ zWSL := zin_2 (List.mem_of_getElem? (i := 227) rfl) rfl
theorem zw_529 : (Jvm.Cond.methodLink "FigureCallerLaw" (7 : Nat) ({ cls := "FigureCaller", name := "define", desc := "()I" } : Jvm.MethodName)) ∈ zWSL := zin_2 (List.mem_of_getElem? (i := 230) rfl) rfl
theorem zw_530 : (Jvm.Cond.instanceMethod ({ cls := "FigureCaller", name := "define", desc := "()I" } : Jvm.MethodName)) ∈ zWSL := zin_2 (List.mem_of_getElem? (i := 231) rfl) rfl
theorem zw_531 : (Jvm.Cond.selects "FigureCaller" ({ cls := "FigureCaller", name := "define", desc := "()I" } : Jvm.MethodName) ({ cls := "FigureCaller", name := "define", desc := "()I" } : Jvm.MethodName)) ∈ zWSL := zin_2 (List.mem_of_getElem? (i := 232) rfl) rfl
theorem zw_532 : (Jvm.Cond.code ({ cls := "FigureCaller", name := "define", desc := "()I" } : Jvm.MethodName) prog_1_method_4_code (1 : Nat) (Option.some Jvm.ClassFile.FieldType.int)) ∈ zWSL := zin_2 (List.mem_of_getElem? (i := 233) rfl) rfl
theorem zw_533 : (Jvm.Cond.methodLink "FigureCaller" (87 : Nat) ({ cls := "FigureCaller$Reader", name := "read", desc := "()I" } : Jvm.MethodName)) ∈ zWSL := zin_2 (List.mem_of_getElem? (i := 234) rfl) rfl
theorem zw_534 : (Jvm.Cond.instanceMethod ({ cls := "FigureCaller$Reader", name := "read", desc := "()I" } : Jvm.MethodName)) ∈ zWSL := zin_2 (List.mem_of_getElem? (i := 235) rfl) rfl
theorem zw_535 : (Jvm.Cond.selects "FigureCaller$Reader" ({ cls := "FigureCaller$Reader", name := "read", desc := "()I" } : Jvm.MethodName) ({ cls := "FigureCaller$Reader", name := "read", desc := "()I" } : Jvm.MethodName)) ∈ zWSL := zin_2 (List.mem_of_getElem? (i := 236) rfl) rfl
theorem zw_536 : (Jvm.Cond.code ({ cls := "FigureCaller$Reader", name := "read", desc := "()I" } : Jvm.MethodName) prog_5_method_2_code (2 : Nat) (Option.some Jvm.ClassFile.FieldType.int)) ∈ zWSL := zin_2 (List.mem_of_getElem? (i := 237) rfl) rfl
theorem zw_537 : (Jvm.Cond.methodLink "FigureCaller$Reader" (45 : Nat) ({ cls := "FigureCaller$Tokens", name := "rewind", desc := "()V" } : Jvm.MethodName)) ∈ zWSL := zin_2 (List.mem_of_getElem? (i := 238) rfl) rfl
theorem zw_538 : (Jvm.Cond.instanceMethod ({ cls := "FigureCaller$Tokens", name := "rewind", desc := "()V" } : Jvm.MethodName)) ∈ zWSL := zin_2 (List.mem_of_getElem? (i := 239) rfl) rfl
theorem zw_539 : (Jvm.Cond.selects "FigureCaller$Tokens" ({ cls := "FigureCaller$Tokens", name := "rewind", desc := "()V" } : Jvm.MethodName) ({ cls := "FigureCaller$Tokens", name := "rewind", desc := "()V" } : Jvm.MethodName)) ∈ zWSL := zin_3 (List.mem_of_getElem? (i := 0) rfl) rfl
theorem zw_540 : (Jvm.Cond.code ({ cls := "FigureCaller$Tokens", name := "rewind", desc := "()V" } : Jvm.MethodName) prog_9_method_2_code (1 : Nat) (Option.none : Option Jvm.ClassFile.FieldType)) ∈ zWSL := zin_3 (List.mem_of_getElem? (i := 1) rfl) rfl
theorem zw_541 : (Jvm.Cond.methodLink "FigureCaller$Reader" (55 : Nat) ({ cls := "FigureCaller$Tokens", name := "next", desc := "()V" } : Jvm.MethodName)) ∈ zWSL := zin_3 (List.mem_of_getElem? (i := 2) rfl) rfl
theorem zw_542 : (Jvm.Cond.instanceMethod ({ cls := "FigureCaller$Tokens", name := "next", desc := "()V" } : Jvm.MethodName)) ∈ zWSL := zin_3 (List.mem_of_getElem? (i := 3) rfl) rfl
theorem zw_543 : (Jvm.Cond.selects "FigureCaller$Tokens" ({ cls := "FigureCaller$Tokens", name := "next", desc := "()V" } : Jvm.MethodName) ({ cls := "FigureCaller$Tokens", name := "next", desc := "()V" } : Jvm.MethodName)) ∈ zWSL := zin_3 (List.mem_of_getElem? (i := 4) rfl) rfl
theorem zw_544 : (Jvm.Cond.code ({ cls := "FigureCaller$Tokens", name := "next", desc := "()V" } : Jvm.MethodName) prog_9_method_3_code (1 : Nat) (Option.none : Option Jvm.ClassFile.FieldType)) ∈ zWSL := zin_3 (List.mem_of_getElem? (i := 5) rfl) rfl
theorem zw_545 : (Jvm.Cond.methodLink "FigureCaller$Tokens" (34 : Nat) ({ cls := "FigureCaller$Tokens", name := "isBetween", desc := "(CC)Z" } : Jvm.MethodName)) ∈ zWSL := zin_3 (List.mem_of_getElem? (i := 6) rfl) rfl
theorem zw_547 : (Jvm.Cond.instanceMethod ({ cls := "FigureCaller$Tokens", name := "isBetween", desc := "(CC)Z" } : Jvm.MethodName)) ∈ zWSL := zin_3 (List.mem_of_getElem? (i := 8) rfl) rfl
theorem zw_548 : (Jvm.Cond.code ({ cls := "FigureCaller$Tokens", name := "isBetween", desc := "(CC)Z" } : Jvm.MethodName) prog_9_method_8_code (3 : Nat) (Option.some Jvm.ClassFile.FieldType.boolean)) ∈ zWSL := zin_3 (List.mem_of_getElem? (i := 9) rfl) rfl
theorem zw_549 : (Jvm.Cond.methodLink "FigureCaller$Tokens" (38 : Nat) ({ cls := "FigureCaller$Tokens", name := "passWord", desc := "()V" } : Jvm.MethodName)) ∈ zWSL := zin_3 (List.mem_of_getElem? (i := 10) rfl) rfl
theorem zw_551 : (Jvm.Cond.instanceMethod ({ cls := "FigureCaller$Tokens", name := "passWord", desc := "()V" } : Jvm.MethodName)) ∈ zWSL := zin_3 (List.mem_of_getElem? (i := 12) rfl) rfl
theorem zw_552 : (Jvm.Cond.code ({ cls := "FigureCaller$Tokens", name := "passWord", desc := "()V" } : Jvm.MethodName) prog_9_method_6_code (1 : Nat) (Option.none : Option Jvm.ClassFile.FieldType)) ∈ zWSL := zin_3 (List.mem_of_getElem? (i := 13) rfl) rfl
theorem zw_553 : (Jvm.Cond.methodLink "FigureCaller$Tokens" (57 : Nat) ({ cls := "FigureCaller$Tokens", name := "packed", desc := "(JC)J" } : Jvm.MethodName)) ∈ zWSL := zin_3 (List.mem_of_getElem? (i := 14) rfl) rfl
theorem zw_554 : (Jvm.Cond.static ({ cls := "FigureCaller$Tokens", name := "packed", desc := "(JC)J" } : Jvm.MethodName)) ∈ zWSL := zin_3 (List.mem_of_getElem? (i := 15) rfl) rfl
theorem zw_555 : (Jvm.Cond.code ({ cls := "FigureCaller$Tokens", name := "packed", desc := "(JC)J" } : Jvm.MethodName) prog_9_method_9_code (3 : Nat) (Option.some Jvm.ClassFile.FieldType.long)) ∈ zWSL := zin_3 (List.mem_of_getElem? (i := 16) rfl) rfl
theorem zw_556 : (Jvm.Cond.constantLong "FigureCaller$Tokens" (68 : Nat) (32 : Int64)) ∈ zWSL := zin_3 (List.mem_of_getElem? (i := 17) rfl) rfl
theorem zw_557 : (Jvm.Cond.methodLink "FigureCaller$Tokens" (41 : Nat) ({ cls := "FigureCaller$Tokens", name := "passNumber", desc := "()V" } : Jvm.MethodName)) ∈ zWSL := zin_3 (List.mem_of_getElem? (i := 18) rfl) rfl
theorem zw_559 : (Jvm.Cond.instanceMethod ({ cls := "FigureCaller$Tokens", name := "passNumber", desc := "()V" } : Jvm.MethodName)) ∈ zWSL := zin_3 (List.mem_of_getElem? (i := 20) rfl) rfl
theorem zw_560 : (Jvm.Cond.code ({ cls := "FigureCaller$Tokens", name := "passNumber", desc := "()V" } : Jvm.MethodName) prog_9_method_7_code (1 : Nat) (Option.none : Option Jvm.ClassFile.FieldType)) ∈ zWSL := zin_3 (List.mem_of_getElem? (i := 21) rfl) rfl
theorem zw_561 : (Jvm.Cond.methodLink "FigureCaller$Reader" (61 : Nat) ({ cls := "FigureCaller$Reader", name := "takes", desc := "()Z" } : Jvm.MethodName)) ∈ zWSL := zin_3 (List.mem_of_getElem? (i := 22) rfl) rfl
theorem zw_563 : (Jvm.Cond.instanceMethod ({ cls := "FigureCaller$Reader", name := "takes", desc := "()Z" } : Jvm.MethodName)) ∈ zWSL := zin_3 (List.mem_of_getElem? (i := 24) rfl) rfl
theorem zw_564 : (Jvm.Cond.code ({ cls := "FigureCaller$Reader", name := "takes", desc := "()Z" } : Jvm.MethodName) prog_5_method_3_code (1 : Nat) (Option.some Jvm.ClassFile.FieldType.boolean)) ∈ zWSL := zin_3 (List.mem_of_getElem? (i := 25) rfl) rfl
theorem zw_565 : (Jvm.Cond.methodLink "FigureCaller$Reader" (81 : Nat) ({ cls := "FigureCaller$Reader", name := "takesName", desc := "()Z" } : Jvm.MethodName)) ∈ zWSL := zin_3 (List.mem_of_getElem? (i := 26) rfl) rfl
theorem zw_567 : (Jvm.Cond.instanceMethod ({ cls := "FigureCaller$Reader", name := "takesName", desc := "()Z" } : Jvm.MethodName)) ∈ zWSL := zin_3 (List.mem_of_getElem? (i := 28) rfl) rfl
theorem zw_568 : (Jvm.Cond.code ({ cls := "FigureCaller$Reader", name := "takesName", desc := "()Z" } : Jvm.MethodName) prog_5_method_5_code (1 : Nat) (Option.some Jvm.ClassFile.FieldType.boolean)) ∈ zWSL := zin_3 (List.mem_of_getElem? (i := 29) rfl) rfl
theorem zw_569 : (Jvm.Cond.methodLink "FigureCaller$Reader" (114 : Nat) ({ cls := "FigureCaller$Book", name := "find", desc := "(J)I" } : Jvm.MethodName)) ∈ zWSL := zin_3 (List.mem_of_getElem? (i := 30) rfl) rfl
theorem zw_570 : (Jvm.Cond.instanceMethod ({ cls := "FigureCaller$Book", name := "find", desc := "(J)I" } : Jvm.MethodName)) ∈ zWSL := zin_3 (List.mem_of_getElem? (i := 31) rfl) rfl
theorem zw_571 : (Jvm.Cond.selects "FigureCaller$Book" ({ cls := "FigureCaller$Book", name := "find", desc := "(J)I" } : Jvm.MethodName) ({ cls := "FigureCaller$Book", name := "find", desc := "(J)I" } : Jvm.MethodName)) ∈ zWSL := zin_3 (List.mem_of_getElem? (i := 32) rfl) rfl
theorem zw_572 : (Jvm.Cond.code ({ cls := "FigureCaller$Book", name := "find", desc := "(J)I" } : Jvm.MethodName) prog_2_method_5_code (4 : Nat) (Option.some Jvm.ClassFile.FieldType.int)) ∈ zWSL := zin_3 (List.mem_of_getElem? (i := 33) rfl) rfl
theorem zw_574 : (Jvm.Cond.methodLink "FigureCaller$Reader" (120 : Nat) ({ cls := "FigureCaller$Tokens", name := "indexIn", desc := "(Ljava/lang/String;)I" } : Jvm.MethodName)) ∈ zWSL := zin_3 (List.mem_of_getElem? (i := 35) rfl) rfl
theorem zw_575 : (Jvm.Cond.instanceMethod ({ cls := "FigureCaller$Tokens", name := "indexIn", desc := "(Ljava/lang/String;)I" } : Jvm.MethodName)) ∈ zWSL := zin_3 (List.mem_of_getElem? (i := 36) rfl) rfl
theorem zw_576 : (Jvm.Cond.selects "FigureCaller$Tokens" ({ cls := "FigureCaller$Tokens", name := "indexIn", desc := "(Ljava/lang/String;)I" } : Jvm.MethodName) ({ cls := "FigureCaller$Tokens", name := "indexIn", desc := "(Ljava/lang/String;)I" } : Jvm.MethodName)) ∈ zWSL := zin_3 (List.mem_of_getElem? (i := 37) rfl) rfl
theorem zw_577 : (Jvm.Cond.code ({ cls := "FigureCaller$Tokens", name := "indexIn", desc := "(Ljava/lang/String;)I" } : Jvm.MethodName) prog_9_method_5_code (6 : Nat) (Option.some Jvm.ClassFile.FieldType.int)) ∈ zWSL := zin_3 (List.mem_of_getElem? (i := 38) rfl) rfl
theorem zw_578 : (Jvm.Cond.methodLink "FigureCaller$Tokens" (48 : Nat) ({ cls := "java/lang/String", name := "length", desc := "()I" } : Jvm.MethodName)) ∈ zWSL := zin_3 (List.mem_of_getElem? (i := 39) rfl) rfl
theorem zw_579 : (Jvm.Cond.instanceMethod ({ cls := "java/lang/String", name := "length", desc := "()I" } : Jvm.MethodName)) ∈ zWSL := zin_3 (List.mem_of_getElem? (i := 40) rfl) rfl
theorem zw_580 : (Jvm.Cond.selects "java/lang/String" ({ cls := "java/lang/String", name := "length", desc := "()I" } : Jvm.MethodName) ({ cls := "java/lang/String", name := "length", desc := "()I" } : Jvm.MethodName)) ∈ zWSL := zin_3 (List.mem_of_getElem? (i := 41) rfl) rfl
theorem zw_581 : (Jvm.Cond.code ({ cls := "java/lang/String", name := "length", desc := "()I" } : Jvm.MethodName) prog_20_method_54_code (1 : Nat) (Option.some Jvm.ClassFile.FieldType.int)) ∈ zWSL := zin_3 (List.mem_of_getElem? (i := 42) rfl) rfl
theorem zw_582 : (Jvm.Cond.methodLink "java/lang/String" (335 : Nat) ({ cls := "java/lang/String", name := "coder", desc := "()B" } : Jvm.MethodName)) ∈ zWSL := zin_3 (List.mem_of_getElem? (i := 43) rfl) rfl
theorem zw_583 : (Jvm.Cond.instanceMethod ({ cls := "java/lang/String", name := "coder", desc := "()B" } : Jvm.MethodName)) ∈ zWSL := zin_3 (List.mem_of_getElem? (i := 44) rfl) rfl
theorem zw_584 : (Jvm.Cond.selects "java/lang/String" ({ cls := "java/lang/String", name := "coder", desc := "()B" } : Jvm.MethodName) ({ cls := "java/lang/String", name := "coder", desc := "()B" } : Jvm.MethodName)) ∈ zWSL := zin_3 (List.mem_of_getElem? (i := 45) rfl) rfl
theorem zw_585 : (Jvm.Cond.code ({ cls := "java/lang/String", name := "coder", desc := "()B" } : Jvm.MethodName) prog_20_method_152_code (1 : Nat) (Option.some Jvm.ClassFile.FieldType.byte)) ∈ zWSL := zin_3 (List.mem_of_getElem? (i := 46) rfl) rfl
theorem zw_586 : (Jvm.Cond.fieldLink "java/lang/String" (38 : Nat) "java/lang/String" "COMPACT_STRINGS" "Z") ∈ zWSL := zin_3 (List.mem_of_getElem? (i := 47) rfl) rfl
theorem zw_588 : (Jvm.Cond.methodLink "FigureCaller$Tokens" (53 : Nat) ({ cls := "java/lang/String", name := "charAt", desc := "(I)C" } : Jvm.MethodName)) ∈ zWSL := zin_3 (List.mem_of_getElem? (i := 49) rfl) rfl
theorem zw_589 : (Jvm.Cond.instanceMethod ({ cls := "java/lang/String", name := "charAt", desc := "(I)C" } : Jvm.MethodName)) ∈ zWSL := zin_3 (List.mem_of_getElem? (i := 50) rfl) rfl
theorem zw_590 : (Jvm.Cond.selects "java/lang/String" ({ cls := "java/lang/String", name := "charAt", desc := "(I)C" } : Jvm.MethodName) ({ cls := "java/lang/String", name := "charAt", desc := "(I)C" } : Jvm.MethodName)) ∈ zWSL := zin_3 (List.mem_of_getElem? (i := 51) rfl) rfl
theorem zw_591 : (Jvm.Cond.code ({ cls := "java/lang/String", name := "charAt", desc := "(I)C" } : Jvm.MethodName) prog_20_method_56_code (2 : Nat) (Option.some Jvm.ClassFile.FieldType.char)) ∈ zWSL := zin_3 (List.mem_of_getElem? (i := 52) rfl) rfl
theorem zw_592 : (Jvm.Cond.methodLink "java/lang/String" (492 : Nat) ({ cls := "java/lang/String", name := "isLatin1", desc := "()Z" } : Jvm.MethodName)) ∈ zWSL := zin_3 (List.mem_of_getElem? (i := 53) rfl) rfl
theorem zw_593 : (Jvm.Cond.instanceMethod ({ cls := "java/lang/String", name := "isLatin1", desc := "()Z" } : Jvm.MethodName)) ∈ zWSL := zin_3 (List.mem_of_getElem? (i := 54) rfl) rfl
theorem zw_594 : (Jvm.Cond.selects "java/lang/String" ({ cls := "java/lang/String", name := "isLatin1", desc := "()Z" } : Jvm.MethodName) ({ cls := "java/lang/String", name := "isLatin1", desc := "()Z" } : Jvm.MethodName)) ∈ zWSL := zin_3 (List.mem_of_getElem? (i := 55) rfl) rfl
theorem zw_595 : (Jvm.Cond.code ({ cls := "java/lang/String", name := "isLatin1", desc := "()Z" } : Jvm.MethodName) prog_20_method_154_code (1 : Nat) (Option.some Jvm.ClassFile.FieldType.boolean)) ∈ zWSL := zin_3 (List.mem_of_getElem? (i := 56) rfl) rfl
theorem zw_596 : (Jvm.Cond.methodLink "java/lang/String" (495 : Nat) ({ cls := "java/lang/StringLatin1", name := "charAt", desc := "([BI)C" } : Jvm.MethodName)) ∈ zWSL := zin_3 (List.mem_of_getElem? (i := 57) rfl) rfl
theorem zw_597 : (Jvm.Cond.static ({ cls := "java/lang/StringLatin1", name := "charAt", desc := "([BI)C" } : Jvm.MethodName)) ∈ zWSL := zin_3 (List.mem_of_getElem? (i := 58) rfl) rfl
theorem zw_598 : (Jvm.Cond.code ({ cls := "java/lang/StringLatin1", name := "charAt", desc := "([BI)C" } : Jvm.MethodName) prog_21_method_2_code (2 : Nat) (Option.some Jvm.ClassFile.FieldType.char)) ∈ zWSL := zin_3 (List.mem_of_getElem? (i := 59) rfl) rfl
theorem zw_599 : (Jvm.Cond.methodLink "java/lang/StringLatin1" (9 : Nat) ({ cls := "java/lang/String", name := "checkIndex", desc := "(II)V" } : Jvm.MethodName)) ∈ zWSL := zin_3 (List.mem_of_getElem? (i := 60) rfl) rfl
theorem zw_600 : (Jvm.Cond.static ({ cls := "java/lang/String", name := "checkIndex", desc := "(II)V" } : Jvm.MethodName)) ∈ zWSL := zin_3 (List.mem_of_getElem? (i := 61) rfl) rfl
theorem zw_601 : (Jvm.Cond.code ({ cls := "java/lang/String", name := "checkIndex", desc := "(II)V" } : Jvm.MethodName) prog_20_method_155_code (2 : Nat) (Option.none : Option Jvm.ClassFile.FieldType)) ∈ zWSL := zin_3 (List.mem_of_getElem? (i := 62) rfl) rfl
theorem zw_602 : (Jvm.Cond.fieldLink "java/lang/String" (1053 : Nat) "jdk/internal/util/Preconditions" "SIOOBE_FORMATTER" "Ljava/util/function/BiFunction;") ∈ zWSL := zin_3 (List.mem_of_getElem? (i := 63) rfl) rfl
theorem zw_604 : (Jvm.Cond.methodLink "java/lang/String" (1059 : Nat) ({ cls := "jdk/internal/util/Preconditions", name := "checkIndex", desc := "(IILjava/util/function/BiFunction;)I" } : Jvm.MethodName)) ∈ zWSL := zin_3 (List.mem_of_getElem? (i := 65) rfl) rfl
theorem zw_605 : (Jvm.Cond.static ({ cls := "jdk/internal/util/Preconditions", name := "checkIndex", desc := "(IILjava/util/function/BiFunction;)I" } : Jvm.MethodName)) ∈ zWSL := zin_3 (List.mem_of_getElem? (i := 66) rfl) rfl
theorem zw_606 : (Jvm.Cond.code ({ cls := "jdk/internal/util/Preconditions", name := "checkIndex", desc := "(IILjava/util/function/BiFunction;)I" } : Jvm.MethodName) prog_25_method_11_code (3 : Nat) (Option.some Jvm.ClassFile.FieldType.int)) ∈ zWSL := zin_3 (List.mem_of_getElem? (i := 67) rfl) rfl
theorem zw_627 : (Jvm.Cond.methodLink "FigureCaller$Reader" (84 : Nat) ({ cls := "FigureCaller$Reader", name := "takesSign", desc := "(CI)Z" } : Jvm.MethodName)) ∈ zWSL := zin_3 (List.mem_of_getElem? (i := 88) rfl) rfl
theorem zw_629 : (Jvm.Cond.instanceMethod ({ cls := "FigureCaller$Reader", name := "takesSign", desc := "(CI)Z" } : Jvm.MethodName)) ∈ zWSL := zin_3 (List.mem_of_getElem? (i := 90) rfl) rfl
theorem zw_630 : (Jvm.Cond.code ({ cls := "FigureCaller$Reader", name := "takesSign", desc := "(CI)Z" } : Jvm.MethodName) prog_5_method_4_code (3 : Nat) (Option.some Jvm.ClassFile.FieldType.boolean)) ∈ zWSL := zin_3 (List.mem_of_getElem? (i := 91) rfl) rfl
theorem zw_631 : (Jvm.Cond.methodLink "FigureCaller$Reader" (106 : Nat) ({ cls := "FigureCaller$Tokens", name := "isSign", desc := "(C)Z" } : Jvm.MethodName)) ∈ zWSL := zin_3 (List.mem_of_getElem? (i := 92) rfl) rfl
theorem zw_632 : (Jvm.Cond.instanceMethod ({ cls := "FigureCaller$Tokens", name := "isSign", desc := "(C)Z" } : Jvm.MethodName)) ∈ zWSL := zin_3 (List.mem_of_getElem? (i := 93) rfl) rfl
theorem zw_633 : (Jvm.Cond.selects "FigureCaller$Tokens" ({ cls := "FigureCaller$Tokens", name := "isSign", desc := "(C)Z" } : Jvm.MethodName) ({ cls := "FigureCaller$Tokens", name := "isSign", desc := "(C)Z" } : Jvm.MethodName)) ∈ zWSL := zin_3 (List.mem_of_getElem? (i := 94) rfl) rfl
theorem zw_634 : (Jvm.Cond.code ({ cls := "FigureCaller$Tokens", name := "isSign", desc := "(C)Z" } : Jvm.MethodName) prog_9_method_4_code (2 : Nat) (Option.some Jvm.ClassFile.FieldType.boolean)) ∈ zWSL := zin_3 (List.mem_of_getElem? (i := 95) rfl) rfl
theorem zw_635 : (Jvm.Cond.methodLink "FigureCaller$Reader" (88 : Nat) ({ cls := "FigureCaller$Reader", name := "takesStep", desc := "()Z" } : Jvm.MethodName)) ∈ zWSL := zin_3 (List.mem_of_getElem? (i := 96) rfl) rfl
theorem zw_637 : (Jvm.Cond.instanceMethod ({ cls := "FigureCaller$Reader", name := "takesStep", desc := "()Z" } : Jvm.MethodName)) ∈ zWSL := zin_3 (List.mem_of_getElem? (i := 98) rfl) rfl
theorem zw_638 : (Jvm.Cond.code ({ cls := "FigureCaller$Reader", name := "takesStep", desc := "()Z" } : Jvm.MethodName) prog_5_method_6_code (1 : Nat) (Option.some Jvm.ClassFile.FieldType.boolean)) ∈ zWSL := zin_3 (List.mem_of_getElem? (i := 99) rfl) rfl
theorem zw_639 : (Jvm.Cond.methodLink "FigureCaller$Reader" (135 : Nat) ({ cls := "FigureCaller$Reader", name := "takesTimes", desc := "()Z" } : Jvm.MethodName)) ∈ zWSL := zin_3 (List.mem_of_getElem? (i := 100) rfl) rfl
theorem zw_641 : (Jvm.Cond.instanceMethod ({ cls := "FigureCaller$Reader", name := "takesTimes", desc := "()Z" } : Jvm.MethodName)) ∈ zWSL := zin_3 (List.mem_of_getElem? (i := 102) rfl) rfl
theorem zw_642 : (Jvm.Cond.code ({ cls := "FigureCaller$Reader", name := "takesTimes", desc := "()Z" } : Jvm.MethodName) prog_5_method_7_code (1 : Nat) (Option.some Jvm.ClassFile.FieldType.boolean)) ∈ zWSL := zin_3 (List.mem_of_getElem? (i := 103) rfl) rfl
theorem zw_643 : (Jvm.Cond.methodLink "FigureCaller$Reader" (138 : Nat) ({ cls := "FigureCaller$Reader", name := "takesOld", desc := "()Z" } : Jvm.MethodName)) ∈ zWSL := zin_3 (List.mem_of_getElem? (i := 104) rfl) rfl
theorem zw_645 : (Jvm.Cond.instanceMethod ({ cls := "FigureCaller$Reader", name := "takesOld", desc := "()Z" } : Jvm.MethodName)) ∈ zWSL := zin_3 (List.mem_of_getElem? (i := 106) rfl) rfl
theorem zw_646 : (Jvm.Cond.code ({ cls := "FigureCaller$Reader", name := "takesOld", desc := "()Z" } : Jvm.MethodName) prog_5_method_9_code (2 : Nat) (Option.some Jvm.ClassFile.FieldType.boolean)) ∈ zWSL := zin_3 (List.mem_of_getElem? (i := 107) rfl) rfl
theorem zw_647 : (Jvm.Cond.methodLink "FigureCaller$Reader" (147 : Nat) ({ cls := "FigureCaller$Book", name := "figure", desc := "(I)LFigureCaller$Figure;" } : Jvm.MethodName)) ∈ zWSL := zin_3 (List.mem_of_getElem? (i := 108) rfl) rfl
theorem zw_648 : (Jvm.Cond.instanceMethod ({ cls := "FigureCaller$Book", name := "figure", desc := "(I)LFigureCaller$Figure;" } : Jvm.MethodName)) ∈ zWSL := zin_3 (List.mem_of_getElem? (i := 109) rfl) rfl
theorem zw_649 : (Jvm.Cond.selects "FigureCaller$Book" ({ cls := "FigureCaller$Book", name := "figure", desc := "(I)LFigureCaller$Figure;" } : Jvm.MethodName) ({ cls := "FigureCaller$Book", name := "figure", desc := "(I)LFigureCaller$Figure;" } : Jvm.MethodName)) ∈ zWSL := zin_3 (List.mem_of_getElem? (i := 110) rfl) rfl
theorem zw_650 : (Jvm.Cond.code ({ cls := "FigureCaller$Book", name := "figure", desc := "(I)LFigureCaller$Figure;" } : Jvm.MethodName) prog_2_method_4_code (2 : Nat) (Option.some (Jvm.ClassFile.FieldType.object "FigureCaller$Figure"))) ∈ zWSL := zin_3 (List.mem_of_getElem? (i := 111) rfl) rfl
theorem zw_651 : (Jvm.Cond.methodLink "FigureCaller$Reader" (151 : Nat) ({ cls := "FigureCaller$Figure", name := "addFigure", desc := "(LFigureCaller$Figure;)V" } : Jvm.MethodName)) ∈ zWSL := zin_3 (List.mem_of_getElem? (i := 112) rfl) rfl
theorem zw_652 : (Jvm.Cond.instanceMethod ({ cls := "FigureCaller$Figure", name := "addFigure", desc := "(LFigureCaller$Figure;)V" } : Jvm.MethodName)) ∈ zWSL := zin_3 (List.mem_of_getElem? (i := 113) rfl) rfl
theorem zw_653 : (Jvm.Cond.selects "FigureCaller$Figure" ({ cls := "FigureCaller$Figure", name := "addFigure", desc := "(LFigureCaller$Figure;)V" } : Jvm.MethodName) ({ cls := "FigureCaller$Figure", name := "addFigure", desc := "(LFigureCaller$Figure;)V" } : Jvm.MethodName)) ∈ zWSL := zin_3 (List.mem_of_getElem? (i := 114) rfl) rfl
theorem zw_654 : (Jvm.Cond.code ({ cls := "FigureCaller$Figure", name := "addFigure", desc := "(LFigureCaller$Figure;)V" } : Jvm.MethodName) prog_4_method_4_code (4 : Nat) (Option.none : Option Jvm.ClassFile.FieldType)) ∈ zWSL := zin_3 (List.mem_of_getElem? (i := 115) rfl) rfl
theorem zw_655 : (Jvm.Cond.methodLink "FigureCaller$Figure" (28 : Nat) ({ cls := "FigureCaller$Figure", name := "addBeat", desc := "(III)V" } : Jvm.MethodName)) ∈ zWSL := zin_3 (List.mem_of_getElem? (i := 116) rfl) rfl
theorem zw_657 : (Jvm.Cond.instanceMethod ({ cls := "FigureCaller$Figure", name := "addBeat", desc := "(III)V" } : Jvm.MethodName)) ∈ zWSL := zin_3 (List.mem_of_getElem? (i := 118) rfl) rfl
theorem zw_658 : (Jvm.Cond.code ({ cls := "FigureCaller$Figure", name := "addBeat", desc := "(III)V" } : Jvm.MethodName) prog_4_method_8_code (4 : Nat) (Option.none : Option Jvm.ClassFile.FieldType)) ∈ zWSL := zin_3 (List.mem_of_getElem? (i := 119) rfl) rfl
theorem zw_659 : (Jvm.Cond.methodLink "FigureCaller$Figure" (32 : Nat) ({ cls := "java/lang/Math", name := "max", desc := "(II)I" } : Jvm.MethodName)) ∈ zWSL := zin_3 (List.mem_of_getElem? (i := 120) rfl) rfl
theorem zw_660 : (Jvm.Cond.methodLink "FigureCaller$Reader" (94 : Nat) ({ cls := "FigureCaller$Reader", name := "takesSelector", desc := "()Z" } : Jvm.MethodName)) ∈ zWSL := zin_3 (List.mem_of_getElem? (i := 121) rfl) rfl
theorem zw_662 : (Jvm.Cond.instanceMethod ({ cls := "FigureCaller$Reader", name := "takesSelector", desc := "()Z" } : Jvm.MethodName)) ∈ zWSL := zin_3 (List.mem_of_getElem? (i := 123) rfl) rfl
theorem zw_663 : (Jvm.Cond.code ({ cls := "FigureCaller$Reader", name := "takesSelector", desc := "()Z" } : Jvm.MethodName) prog_5_method_10_code (1 : Nat) (Option.some Jvm.ClassFile.FieldType.boolean)) ∈ zWSL := zin_3 (List.mem_of_getElem? (i := 124) rfl) rfl
theorem zw_664 : (Jvm.Cond.methodLink "FigureCaller$Reader" (91 : Nat) ({ cls := "FigureCaller$Reader", name := "takesBracket", desc := "()Z" } : Jvm.MethodName)) ∈ zWSL := zin_3 (List.mem_of_getElem? (i := 125) rfl) rfl
theorem zw_666 : (Jvm.Cond.instanceMethod ({ cls := "FigureCaller$Reader", name := "takesBracket", desc := "()Z" } : Jvm.MethodName)) ∈ zWSL := zin_3 (List.mem_of_getElem? (i := 127) rfl) rfl
theorem zw_667 : (Jvm.Cond.code ({ cls := "FigureCaller$Reader", name := "takesBracket", desc := "()Z" } : Jvm.MethodName) prog_5_method_8_code (1 : Nat) (Option.some Jvm.ClassFile.FieldType.boolean)) ∈ zWSL := zin_3 (List.mem_of_getElem? (i := 128) rfl) rfl
theorem zw_668 : (Jvm.Cond.methodLink "FigureCaller$Reader" (97 : Nat) ({ cls := "FigureCaller$Reader", name := "takesAtom", desc := "()Z" } : Jvm.MethodName)) ∈ zWSL := zin_3 (List.mem_of_getElem? (i := 129) rfl) rfl
theorem zw_670 : (Jvm.Cond.instanceMethod ({ cls := "FigureCaller$Reader", name := "takesAtom", desc := "()Z" } : Jvm.MethodName)) ∈ zWSL := zin_3 (List.mem_of_getElem? (i := 131) rfl) rfl
theorem zw_671 : (Jvm.Cond.code ({ cls := "FigureCaller$Reader", name := "takesAtom", desc := "()Z" } : Jvm.MethodName) prog_5_method_11_code (2 : Nat) (Option.some Jvm.ClassFile.FieldType.boolean)) ∈ zWSL := zin_3 (List.mem_of_getElem? (i := 132) rfl) rfl
theorem zw_672 : (Jvm.Cond.methodLink "FigureCaller$Reader" (158 : Nat) ({ cls := "FigureCaller$Book", name := "addPart", desc := "(II)V" } : Jvm.MethodName)) ∈ zWSL := zin_3 (List.mem_of_getElem? (i := 133) rfl) rfl
theorem zw_673 : (Jvm.Cond.instanceMethod ({ cls := "FigureCaller$Book", name := "addPart", desc := "(II)V" } : Jvm.MethodName)) ∈ zWSL := zin_3 (List.mem_of_getElem? (i := 134) rfl) rfl
theorem zw_674 : (Jvm.Cond.selects "FigureCaller$Book" ({ cls := "FigureCaller$Book", name := "addPart", desc := "(II)V" } : Jvm.MethodName) ({ cls := "FigureCaller$Book", name := "addPart", desc := "(II)V" } : Jvm.MethodName)) ∈ zWSL := zin_3 (List.mem_of_getElem? (i := 135) rfl) rfl
theorem zw_675 : (Jvm.Cond.code ({ cls := "FigureCaller$Book", name := "addPart", desc := "(II)V" } : Jvm.MethodName) prog_2_method_7_code (3 : Nat) (Option.none : Option Jvm.ClassFile.FieldType)) ∈ zWSL := zin_3 (List.mem_of_getElem? (i := 136) rfl) rfl
theorem zw_676 : (Jvm.Cond.methodLink "FigureCaller$Reader" (100 : Nat) ({ cls := "FigureCaller$Reader", name := "takesEndOfBeat", desc := "()Z" } : Jvm.MethodName)) ∈ zWSL := zin_3 (List.mem_of_getElem? (i := 137) rfl) rfl
theorem zw_678 : (Jvm.Cond.instanceMethod ({ cls := "FigureCaller$Reader", name := "takesEndOfBeat", desc := "()Z" } : Jvm.MethodName)) ∈ zWSL := zin_3 (List.mem_of_getElem? (i := 139) rfl) rfl
theorem zw_679 : (Jvm.Cond.code ({ cls := "FigureCaller$Reader", name := "takesEndOfBeat", desc := "()Z" } : Jvm.MethodName) prog_5_method_12_code (1 : Nat) (Option.some Jvm.ClassFile.FieldType.boolean)) ∈ zWSL := zin_3 (List.mem_of_getElem? (i := 140) rfl) rfl
theorem zw_680 : (Jvm.Cond.methodLink "FigureCaller$Reader" (162 : Nat) ({ cls := "FigureCaller$Figure", name := "addOwnBeat", desc := "(II)V" } : Jvm.MethodName)) ∈ zWSL := zin_3 (List.mem_of_getElem? (i := 141) rfl) rfl
theorem zw_681 : (Jvm.Cond.instanceMethod ({ cls := "FigureCaller$Figure", name := "addOwnBeat", desc := "(II)V" } : Jvm.MethodName)) ∈ zWSL := zin_3 (List.mem_of_getElem? (i := 142) rfl) rfl
theorem zw_682 : (Jvm.Cond.selects "FigureCaller$Figure" ({ cls := "FigureCaller$Figure", name := "addOwnBeat", desc := "(II)V" } : Jvm.MethodName) ({ cls := "FigureCaller$Figure", name := "addOwnBeat", desc := "(II)V" } : Jvm.MethodName)) ∈ zWSL := zin_3 (List.mem_of_getElem? (i := 143) rfl) rfl
theorem zw_683 : (Jvm.Cond.code ({ cls := "FigureCaller$Figure", name := "addOwnBeat", desc := "(II)V" } : Jvm.MethodName) prog_4_method_3_code (3 : Nat) (Option.none : Option Jvm.ClassFile.FieldType)) ∈ zWSL := zin_3 (List.mem_of_getElem? (i := 144) rfl) rfl
theorem zw_684 : (Jvm.Cond.methodLink "FigureCaller$Reader" (103 : Nat) ({ cls := "FigureCaller$Reader", name := "takesEndOfStep", desc := "()Z" } : Jvm.MethodName)) ∈ zWSL := zin_3 (List.mem_of_getElem? (i := 145) rfl) rfl
theorem zw_686 : (Jvm.Cond.instanceMethod ({ cls := "FigureCaller$Reader", name := "takesEndOfStep", desc := "()Z" } : Jvm.MethodName)) ∈ zWSL := zin_3 (List.mem_of_getElem? (i := 147) rfl) rfl
theorem zw_687 : (Jvm.Cond.code ({ cls := "FigureCaller$Reader", name := "takesEndOfStep", desc := "()Z" } : Jvm.MethodName) prog_5_method_13_code (1 : Nat) (Option.some Jvm.ClassFile.FieldType.boolean)) ∈ zWSL := zin_3 (List.mem_of_getElem? (i := 148) rfl) rfl
theorem zw_688 : (Jvm.Cond.methodLink "FigureCaller$Reader" (165 : Nat) ({ cls := "FigureCaller$Figure", name := "repeat", desc := "(II)V" } : Jvm.MethodName)) ∈ zWSL := zin_3 (List.mem_of_getElem? (i := 149) rfl) rfl
theorem zw_689 : (Jvm.Cond.instanceMethod ({ cls := "FigureCaller$Figure", name := "repeat", desc := "(II)V" } : Jvm.MethodName)) ∈ zWSL := zin_3 (List.mem_of_getElem? (i := 150) rfl) rfl
theorem zw_690 : (Jvm.Cond.selects "FigureCaller$Figure" ({ cls := "FigureCaller$Figure", name := "repeat", desc := "(II)V" } : Jvm.MethodName) ({ cls := "FigureCaller$Figure", name := "repeat", desc := "(II)V" } : Jvm.MethodName)) ∈ zWSL := zin_3 (List.mem_of_getElem? (i := 151) rfl) rfl
theorem zw_691 : (Jvm.Cond.code ({ cls := "FigureCaller$Figure", name := "repeat", desc := "(II)V" } : Jvm.MethodName) prog_4_method_5_code (7 : Nat) (Option.none : Option Jvm.ClassFile.FieldType)) ∈ zWSL := zin_3 (List.mem_of_getElem? (i := 152) rfl) rfl
theorem zw_692 : (Jvm.Cond.methodLink "FigureCaller$Reader" (68 : Nat) ({ cls := "FigureCaller$Reader", name := "isWhole", desc := "()Z" } : Jvm.MethodName)) ∈ zWSL := zin_3 (List.mem_of_getElem? (i := 153) rfl) rfl
theorem zw_694 : (Jvm.Cond.instanceMethod ({ cls := "FigureCaller$Reader", name := "isWhole", desc := "()Z" } : Jvm.MethodName)) ∈ zWSL := zin_3 (List.mem_of_getElem? (i := 155) rfl) rfl
theorem zw_695 : (Jvm.Cond.code ({ cls := "FigureCaller$Reader", name := "isWhole", desc := "()Z" } : Jvm.MethodName) prog_5_method_14_code (1 : Nat) (Option.some Jvm.ClassFile.FieldType.boolean)) ∈ zWSL := zin_3 (List.mem_of_getElem? (i := 156) rfl) rfl
theorem zw_696 : (Jvm.Cond.methodLink "FigureCaller$Reader" (71 : Nat) ({ cls := "FigureCaller$Figure", name := "isTooLarge", desc := "()Z" } : Jvm.MethodName)) ∈ zWSL := zin_3 (List.mem_of_getElem? (i := 157) rfl) rfl
theorem zw_697 : (Jvm.Cond.instanceMethod ({ cls := "FigureCaller$Figure", name := "isTooLarge", desc := "()Z" } : Jvm.MethodName)) ∈ zWSL := zin_3 (List.mem_of_getElem? (i := 158) rfl) rfl
theorem zw_698 : (Jvm.Cond.selects "FigureCaller$Figure" ({ cls := "FigureCaller$Figure", name := "isTooLarge", desc := "()Z" } : Jvm.MethodName) ({ cls := "FigureCaller$Figure", name := "isTooLarge", desc := "()Z" } : Jvm.MethodName)) ∈ zWSL := zin_3 (List.mem_of_getElem? (i := 159) rfl) rfl
theorem zw_699 : (Jvm.Cond.code ({ cls := "FigureCaller$Figure", name := "isTooLarge", desc := "()Z" } : Jvm.MethodName) prog_4_method_6_code (1 : Nat) (Option.some Jvm.ClassFile.FieldType.boolean)) ∈ zWSL := zin_3 (List.mem_of_getElem? (i := 160) rfl) rfl
theorem zw_768 : (Jvm.Cond.methodLink "FigureCaller" (97 : Nat) ({ cls := "FigureCaller$Book", name := "isFull", desc := "()Z" } : Jvm.MethodName)) ∈ zWSL := zin_3 (List.mem_of_getElem? (i := 229) rfl) rfl
theorem zw_769 : (Jvm.Cond.instanceMethod ({ cls := "FigureCaller$Book", name := "isFull", desc := "()Z" } : Jvm.MethodName)) ∈ zWSL := zin_3 (List.mem_of_getElem? (i := 230) rfl) rfl
theorem zw_770 : (Jvm.Cond.selects "FigureCaller$Book" ({ cls := "FigureCaller$Book", name := "isFull", desc := "()Z" } : Jvm.MethodName) ({ cls := "FigureCaller$Book", name := "isFull", desc := "()Z" } : Jvm.MethodName)) ∈ zWSL := zin_3 (List.mem_of_getElem? (i := 231) rfl) rfl
theorem zw_771 : (Jvm.Cond.code ({ cls := "FigureCaller$Book", name := "isFull", desc := "()Z" } : Jvm.MethodName) prog_2_method_3_code (1 : Nat) (Option.some Jvm.ClassFile.FieldType.boolean)) ∈ zWSL := zin_3 (List.mem_of_getElem? (i := 232) rfl) rfl
theorem zw_788 : (Jvm.Cond.methodLink "FigureCaller" (106 : Nat) ({ cls := "FigureCaller$Book", name := "keepDraft", desc := "()I" } : Jvm.MethodName)) ∈ zWSL := zin_4 (List.mem_of_getElem? (i := 9) rfl) rfl
theorem zw_789 : (Jvm.Cond.instanceMethod ({ cls := "FigureCaller$Book", name := "keepDraft", desc := "()I" } : Jvm.MethodName)) ∈ zWSL := zin_4 (List.mem_of_getElem? (i := 10) rfl) rfl
theorem zw_790 : (Jvm.Cond.selects "FigureCaller$Book" ({ cls := "FigureCaller$Book", name := "keepDraft", desc := "()I" } : Jvm.MethodName) ({ cls := "FigureCaller$Book", name := "keepDraft", desc := "()I" } : Jvm.MethodName)) ∈ zWSL := zin_4 (List.mem_of_getElem? (i := 11) rfl) rfl
theorem zw_791 : (Jvm.Cond.code ({ cls := "FigureCaller$Book", name := "keepDraft", desc := "()I" } : Jvm.MethodName) prog_2_method_8_code (1 : Nat) (Option.some Jvm.ClassFile.FieldType.int)) ∈ zWSL := zin_4 (List.mem_of_getElem? (i := 12) rfl) rfl
theorem zw_792 : (Jvm.Cond.methodLink "FigureCaller$Book" (42 : Nat) ({ cls := "FigureCaller$Figure", name := "settle", desc := "()V" } : Jvm.MethodName)) ∈ zWSL := zin_4 (List.mem_of_getElem? (i := 13) rfl) rfl
theorem zw_793 : (Jvm.Cond.instanceMethod ({ cls := "FigureCaller$Figure", name := "settle", desc := "()V" } : Jvm.MethodName)) ∈ zWSL := zin_4 (List.mem_of_getElem? (i := 14) rfl) rfl
theorem zw_794 : (Jvm.Cond.selects "FigureCaller$Figure" ({ cls := "FigureCaller$Figure", name := "settle", desc := "()V" } : Jvm.MethodName) ({ cls := "FigureCaller$Figure", name := "settle", desc := "()V" } : Jvm.MethodName)) ∈ zWSL := zin_4 (List.mem_of_getElem? (i := 15) rfl) rfl
theorem zw_795 : (Jvm.Cond.code ({ cls := "FigureCaller$Figure", name := "settle", desc := "()V" } : Jvm.MethodName) prog_4_method_7_code (2 : Nat) (Option.none : Option Jvm.ClassFile.FieldType)) ∈ zWSL := zin_4 (List.mem_of_getElem? (i := 16) rfl) rfl
theorem zw_796 : (Jvm.Cond.methodLink "FigureCallerLaw" (78 : Nat) ({ cls := "FigureCallerLaw", name := "beats", desc := "(LFigureCaller;I[J)I" } : Jvm.MethodName)) ∈ zWSL := zin_4 (List.mem_of_getElem? (i := 17) rfl) rfl
theorem zw_797 : (Jvm.Cond.static ({ cls := "FigureCallerLaw", name := "beats", desc := "(LFigureCaller;I[J)I" } : Jvm.MethodName)) ∈ zWSL := zin_4 (List.mem_of_getElem? (i := 18) rfl) rfl
theorem zw_798 : (Jvm.Cond.codeWith ({ cls := "FigureCallerLaw", name := "beats", desc := "(LFigureCaller;I[J)I" } : Jvm.MethodName) method_4_code (4 : Nat) (Option.some Jvm.ClassFile.FieldType.int) [((0 : Nat), (9 : Nat), (12 : Nat), (13 : Nat))]) ∈ zWSL := zin_4 (List.mem_of_getElem? (i := 19) rfl) rfl
theorem zw_799 : (Jvm.Cond.methodLink "FigureCallerLaw" (17 : Nat) ({ cls := "FigureCaller", name := "beats", desc := "(I)I" } : Jvm.MethodName)) ∈ zWSL := zin_4 (List.mem_of_getElem? (i := 20) rfl) rfl
theorem zw_800 : (Jvm.Cond.instanceMethod ({ cls := "FigureCaller", name := "beats", desc := "(I)I" } : Jvm.MethodName)) ∈ zWSL := zin_4 (List.mem_of_getElem? (i := 21) rfl) rfl
theorem zw_801 : (Jvm.Cond.selects "FigureCaller" ({ cls := "FigureCaller", name := "beats", desc := "(I)I" } : Jvm.MethodName) ({ cls := "FigureCaller", name := "beats", desc := "(I)I" } : Jvm.MethodName)) ∈ zWSL := zin_4 (List.mem_of_getElem? (i := 22) rfl) rfl
theorem zw_802 : (Jvm.Cond.code ({ cls := "FigureCaller", name := "beats", desc := "(I)I" } : Jvm.MethodName) prog_1_method_6_code (2 : Nat) (Option.some Jvm.ClassFile.FieldType.int)) ∈ zWSL := zin_4 (List.mem_of_getElem? (i := 23) rfl) rfl
theorem zw_803 : (Jvm.Cond.methodLink "FigureCaller" (109 : Nat) ({ cls := "FigureCaller", name := "checkCall", desc := "(I)V" } : Jvm.MethodName)) ∈ zWSL := zin_4 (List.mem_of_getElem? (i := 24) rfl) rfl
theorem zw_805 : (Jvm.Cond.instanceMethod ({ cls := "FigureCaller", name := "checkCall", desc := "(I)V" } : Jvm.MethodName)) ∈ zWSL := zin_4 (List.mem_of_getElem? (i := 26) rfl) rfl
theorem zw_806 : (Jvm.Cond.code ({ cls := "FigureCaller", name := "checkCall", desc := "(I)V" } : Jvm.MethodName) prog_1_method_21_code (2 : Nat) (Option.none : Option Jvm.ClassFile.FieldType)) ∈ zWSL := zin_4 (List.mem_of_getElem? (i := 27) rfl) rfl
theorem zw_807 : (Jvm.Cond.methodLink "FigureCaller" (208 : Nat) ({ cls := "FigureCaller$Book", name := "has", desc := "(I)Z" } : Jvm.MethodName)) ∈ zWSL := zin_4 (List.mem_of_getElem? (i := 28) rfl) rfl
theorem zw_808 : (Jvm.Cond.instanceMethod ({ cls := "FigureCaller$Book", name := "has", desc := "(I)Z" } : Jvm.MethodName)) ∈ zWSL := zin_4 (List.mem_of_getElem? (i := 29) rfl) rfl
theorem zw_809 : (Jvm.Cond.selects "FigureCaller$Book" ({ cls := "FigureCaller$Book", name := "has", desc := "(I)Z" } : Jvm.MethodName) ({ cls := "FigureCaller$Book", name := "has", desc := "(I)Z" } : Jvm.MethodName)) ∈ zWSL := zin_4 (List.mem_of_getElem? (i := 30) rfl) rfl
theorem zw_810 : (Jvm.Cond.code ({ cls := "FigureCaller$Book", name := "has", desc := "(I)Z" } : Jvm.MethodName) prog_2_method_2_code (2 : Nat) (Option.some Jvm.ClassFile.FieldType.boolean)) ∈ zWSL := zin_4 (List.mem_of_getElem? (i := 31) rfl) rfl
theorem zw_812 : (Jvm.Cond.methodLink "FigureCaller" (113 : Nat) ({ cls := "FigureCaller$Book", name := "figure", desc := "(I)LFigureCaller$Figure;" } : Jvm.MethodName)) ∈ zWSL := zin_4 (List.mem_of_getElem? (i := 33) rfl) rfl
theorem zw_813 : (Jvm.Cond.methodLink "FigureCallerLaw" (82 : Nat) ({ cls := "FigureCallerLaw", name := "dance", desc := "(LFigureCaller;I[J)I" } : Jvm.MethodName)) ∈ zWSL := zin_4 (List.mem_of_getElem? (i := 34) rfl) rfl
theorem zw_814 : (Jvm.Cond.static ({ cls := "FigureCallerLaw", name := "dance", desc := "(LFigureCaller;I[J)I" } : Jvm.MethodName)) ∈ zWSL := zin_4 (List.mem_of_getElem? (i := 35) rfl) rfl
theorem zw_815 : (Jvm.Cond.codeWith ({ cls := "FigureCallerLaw", name := "dance", desc := "(LFigureCaller;I[J)I" } : Jvm.MethodName) method_5_code (4 : Nat) (Option.some Jvm.ClassFile.FieldType.int) [((0 : Nat), (9 : Nat), (12 : Nat), (13 : Nat)), ((0 : Nat), (9 : Nat), (15 : Nat), (15 : Nat))]) ∈ zWSL := zin_4 (List.mem_of_getElem? (i := 36) rfl) rfl
theorem zw_816 : (Jvm.Cond.methodLink "FigureCallerLaw" (21 : Nat) ({ cls := "FigureCaller", name := "dance", desc := "(I)I" } : Jvm.MethodName)) ∈ zWSL := zin_4 (List.mem_of_getElem? (i := 37) rfl) rfl
theorem zw_817 : (Jvm.Cond.instanceMethod ({ cls := "FigureCaller", name := "dance", desc := "(I)I" } : Jvm.MethodName)) ∈ zWSL := zin_4 (List.mem_of_getElem? (i := 38) rfl) rfl
theorem zw_818 : (Jvm.Cond.selects "FigureCaller" ({ cls := "FigureCaller", name := "dance", desc := "(I)I" } : Jvm.MethodName) ({ cls := "FigureCaller", name := "dance", desc := "(I)I" } : Jvm.MethodName)) ∈ zWSL := zin_4 (List.mem_of_getElem? (i := 39) rfl) rfl
theorem zw_819 : (Jvm.Cond.code ({ cls := "FigureCaller", name := "dance", desc := "(I)I" } : Jvm.MethodName) prog_1_method_7_code (2 : Nat) (Option.some Jvm.ClassFile.FieldType.int)) ∈ zWSL := zin_4 (List.mem_of_getElem? (i := 40) rfl) rfl
theorem zw_820 : (Jvm.Cond.methodLink "FigureCaller" (122 : Nat) ({ cls := "FigureCaller", name := "perform", desc := "(IZ)I" } : Jvm.MethodName)) ∈ zWSL := zin_4 (List.mem_of_getElem? (i := 41) rfl) rfl
theorem zw_822 : (Jvm.Cond.instanceMethod ({ cls := "FigureCaller", name := "perform", desc := "(IZ)I" } : Jvm.MethodName)) ∈ zWSL := zin_4 (List.mem_of_getElem? (i := 43) rfl) rfl
theorem zw_823 : (Jvm.Cond.code ({ cls := "FigureCaller", name := "perform", desc := "(IZ)I" } : Jvm.MethodName) prog_1_method_20_code (4 : Nat) (Option.some Jvm.ClassFile.FieldType.int)) ∈ zWSL := zin_4 (List.mem_of_getElem? (i := 44) rfl) rfl
theorem zw_825 : (Jvm.Cond.methodLink "FigureCaller" (193 : Nat) ({ cls := "FigureCaller$Track", name := "begin", desc := "([II)V" } : Jvm.MethodName)) ∈ zWSL := zin_4 (List.mem_of_getElem? (i := 46) rfl) rfl
theorem zw_826 : (Jvm.Cond.methodLink "FigureCaller" (196 : Nat) ({ cls := "FigureCaller$Dancing", name := "follow", desc := "(LFigureCaller$Track;LFigureCaller$Figure;Z)I" } : Jvm.MethodName)) ∈ zWSL := zin_4 (List.mem_of_getElem? (i := 47) rfl) rfl
theorem zw_828 : (Jvm.Cond.methodLink "FigureCaller" (134 : Nat) ({ cls := "FigureCaller$Track", name := "copyRow", desc := "(I[II)V" } : Jvm.MethodName)) ∈ zWSL := zin_4 (List.mem_of_getElem? (i := 49) rfl) rfl
theorem zw_829 : (Jvm.Cond.methodLink "FigureCallerLaw" (85 : Nat) ({ cls := "FigureCallerLaw", name := "backward", desc := "(LFigureCaller;I[J)I" } : Jvm.MethodName)) ∈ zWSL := zin_4 (List.mem_of_getElem? (i := 50) rfl) rfl
theorem zw_830 : (Jvm.Cond.static ({ cls := "FigureCallerLaw", name := "backward", desc := "(LFigureCaller;I[J)I" } : Jvm.MethodName)) ∈ zWSL := zin_4 (List.mem_of_getElem? (i := 51) rfl) rfl
theorem zw_831 : (Jvm.Cond.codeWith ({ cls := "FigureCallerLaw", name := "backward", desc := "(LFigureCaller;I[J)I" } : Jvm.MethodName) method_6_code (4 : Nat) (Option.some Jvm.ClassFile.FieldType.int) [((0 : Nat), (9 : Nat), (12 : Nat), (13 : Nat)), ((0 : Nat), (9 : Nat), (15 : Nat), (15 : Nat))]) ∈ zWSL := zin_4 (List.mem_of_getElem? (i := 52) rfl) rfl
theorem zw_832 : (Jvm.Cond.methodLink "FigureCallerLaw" (24 : Nat) ({ cls := "FigureCaller", name := "backward", desc := "(I)I" } : Jvm.MethodName)) ∈ zWSL := zin_4 (List.mem_of_getElem? (i := 53) rfl) rfl
theorem zw_833 : (Jvm.Cond.instanceMethod ({ cls := "FigureCaller", name := "backward", desc := "(I)I" } : Jvm.MethodName)) ∈ zWSL := zin_4 (List.mem_of_getElem? (i := 54) rfl) rfl
theorem zw_834 : (Jvm.Cond.selects "FigureCaller" ({ cls := "FigureCaller", name := "backward", desc := "(I)I" } : Jvm.MethodName) ({ cls := "FigureCaller", name := "backward", desc := "(I)I" } : Jvm.MethodName)) ∈ zWSL := zin_4 (List.mem_of_getElem? (i := 55) rfl) rfl
theorem zw_835 : (Jvm.Cond.code ({ cls := "FigureCaller", name := "backward", desc := "(I)I" } : Jvm.MethodName) prog_1_method_8_code (2 : Nat) (Option.some Jvm.ClassFile.FieldType.int)) ∈ zWSL := zin_4 (List.mem_of_getElem? (i := 56) rfl) rfl
theorem zw_836 : (Jvm.Cond.methodLink "FigureCallerLaw" (92 : Nat) ({ cls := "FigureCallerLaw", name := "undo", desc := "(LFigureCaller;[J)I" } : Jvm.MethodName)) ∈ zWSL := zin_4 (List.mem_of_getElem? (i := 57) rfl) rfl
theorem zw_837 : (Jvm.Cond.static ({ cls := "FigureCallerLaw", name := "undo", desc := "(LFigureCaller;[J)I" } : Jvm.MethodName)) ∈ zWSL := zin_4 (List.mem_of_getElem? (i := 58) rfl) rfl
theorem zw_838 : (Jvm.Cond.codeWith ({ cls := "FigureCallerLaw", name := "undo", desc := "(LFigureCaller;[J)I" } : Jvm.MethodName) method_7_code (3 : Nat) (Option.some Jvm.ClassFile.FieldType.int) [((0 : Nat), (8 : Nat), (11 : Nat), (15 : Nat))]) ∈ zWSL := zin_4 (List.mem_of_getElem? (i := 59) rfl) rfl
theorem zw_839 : (Jvm.Cond.methodLink "FigureCallerLaw" (27 : Nat) ({ cls := "FigureCaller", name := "undo", desc := "()I" } : Jvm.MethodName)) ∈ zWSL := zin_4 (List.mem_of_getElem? (i := 60) rfl) rfl
theorem zw_840 : (Jvm.Cond.instanceMethod ({ cls := "FigureCaller", name := "undo", desc := "()I" } : Jvm.MethodName)) ∈ zWSL := zin_4 (List.mem_of_getElem? (i := 61) rfl) rfl
theorem zw_841 : (Jvm.Cond.selects "FigureCaller" ({ cls := "FigureCaller", name := "undo", desc := "()I" } : Jvm.MethodName) ({ cls := "FigureCaller", name := "undo", desc := "()I" } : Jvm.MethodName)) ∈ zWSL := zin_4 (List.mem_of_getElem? (i := 62) rfl) rfl
theorem zw_842 : (Jvm.Cond.code ({ cls := "FigureCaller", name := "undo", desc := "()I" } : Jvm.MethodName) prog_1_method_10_code (2 : Nat) (Option.some Jvm.ClassFile.FieldType.int)) ∈ zWSL := zin_4 (List.mem_of_getElem? (i := 63) rfl) rfl
theorem zw_844 : (Jvm.Cond.methodLink "FigureCallerLaw" (99 : Nat) ({ cls := "FigureCallerLaw", name := "where", desc := "(LFigureCaller;II[J)I" } : Jvm.MethodName)) ∈ zWSL := zin_4 (List.mem_of_getElem? (i := 65) rfl) rfl
theorem zw_845 : (Jvm.Cond.static ({ cls := "FigureCallerLaw", name := "where", desc := "(LFigureCaller;II[J)I" } : Jvm.MethodName)) ∈ zWSL := zin_4 (List.mem_of_getElem? (i := 66) rfl) rfl
theorem zw_846 : (Jvm.Cond.codeWith ({ cls := "FigureCallerLaw", name := "where", desc := "(LFigureCaller;II[J)I" } : Jvm.MethodName) method_8_code (5 : Nat) (Option.some Jvm.ClassFile.FieldType.int) [((0 : Nat), (10 : Nat), (13 : Nat), (13 : Nat))]) ∈ zWSL := zin_4 (List.mem_of_getElem? (i := 67) rfl) rfl
theorem zw_847 : (Jvm.Cond.methodLink "FigureCallerLaw" (30 : Nat) ({ cls := "FigureCaller", name := "where", desc := "(II)I" } : Jvm.MethodName)) ∈ zWSL := zin_4 (List.mem_of_getElem? (i := 68) rfl) rfl
theorem zw_848 : (Jvm.Cond.instanceMethod ({ cls := "FigureCaller", name := "where", desc := "(II)I" } : Jvm.MethodName)) ∈ zWSL := zin_4 (List.mem_of_getElem? (i := 69) rfl) rfl
theorem zw_849 : (Jvm.Cond.selects "FigureCaller" ({ cls := "FigureCaller", name := "where", desc := "(II)I" } : Jvm.MethodName) ({ cls := "FigureCaller", name := "where", desc := "(II)I" } : Jvm.MethodName)) ∈ zWSL := zin_4 (List.mem_of_getElem? (i := 70) rfl) rfl
theorem zw_850 : (Jvm.Cond.code ({ cls := "FigureCaller", name := "where", desc := "(II)I" } : Jvm.MethodName) prog_1_method_12_code (4 : Nat) (Option.some Jvm.ClassFile.FieldType.int)) ∈ zWSL := zin_4 (List.mem_of_getElem? (i := 71) rfl) rfl
theorem zw_851 : (Jvm.Cond.methodLink "FigureCaller" (139 : Nat) ({ cls := "FigureCaller", name := "checkDancer", desc := "(I)V" } : Jvm.MethodName)) ∈ zWSL := zin_4 (List.mem_of_getElem? (i := 72) rfl) rfl
theorem zw_852 : (Jvm.Cond.static ({ cls := "FigureCaller", name := "checkDancer", desc := "(I)V" } : Jvm.MethodName)) ∈ zWSL := zin_4 (List.mem_of_getElem? (i := 73) rfl) rfl
theorem zw_853 : (Jvm.Cond.code ({ cls := "FigureCaller", name := "checkDancer", desc := "(I)V" } : Jvm.MethodName) prog_1_method_22_code (1 : Nat) (Option.none : Option Jvm.ClassFile.FieldType)) ∈ zWSL := zin_4 (List.mem_of_getElem? (i := 74) rfl) rfl
theorem zw_856 : (Jvm.Cond.methodLink "FigureCallerLaw" (103 : Nat) ({ cls := "FigureCallerLaw", name := "stood", desc := "(LFigureCaller;II[J)I" } : Jvm.MethodName)) ∈ zWSL := zin_4 (List.mem_of_getElem? (i := 77) rfl) rfl
theorem zw_857 : (Jvm.Cond.static ({ cls := "FigureCallerLaw", name := "stood", desc := "(LFigureCaller;II[J)I" } : Jvm.MethodName)) ∈ zWSL := zin_4 (List.mem_of_getElem? (i := 78) rfl) rfl
theorem zw_858 : (Jvm.Cond.codeWith ({ cls := "FigureCallerLaw", name := "stood", desc := "(LFigureCaller;II[J)I" } : Jvm.MethodName) method_9_code (5 : Nat) (Option.some Jvm.ClassFile.FieldType.int) [((0 : Nat), (10 : Nat), (13 : Nat), (13 : Nat)), ((0 : Nat), (10 : Nat), (17 : Nat), (37 : Nat))]) ∈ zWSL := zin_4 (List.mem_of_getElem? (i := 79) rfl) rfl
theorem zw_860 : (Jvm.Cond.methodLink "FigureCallerLaw" (34 : Nat) ({ cls := "FigureCaller", name := "stood", desc := "(II)I" } : Jvm.MethodName)) ∈ zWSL := zin_4 (List.mem_of_getElem? (i := 81) rfl) rfl
theorem zw_861 : (Jvm.Cond.instanceMethod ({ cls := "FigureCaller", name := "stood", desc := "(II)I" } : Jvm.MethodName)) ∈ zWSL := zin_4 (List.mem_of_getElem? (i := 82) rfl) rfl
theorem zw_862 : (Jvm.Cond.selects "FigureCaller" ({ cls := "FigureCaller", name := "stood", desc := "(II)I" } : Jvm.MethodName) ({ cls := "FigureCaller", name := "stood", desc := "(II)I" } : Jvm.MethodName)) ∈ zWSL := zin_4 (List.mem_of_getElem? (i := 83) rfl) rfl
theorem zw_863 : (Jvm.Cond.code ({ cls := "FigureCaller", name := "stood", desc := "(II)I" } : Jvm.MethodName) prog_1_method_13_code (4 : Nat) (Option.some Jvm.ClassFile.FieldType.int)) ∈ zWSL := zin_4 (List.mem_of_getElem? (i := 84) rfl) rfl
theorem zw_880 : (Jvm.Cond.methodLink "FigureCaller" (149 : Nat) ({ cls := "FigureCaller$Track", name := "place", desc := "(II)I" } : Jvm.MethodName)) ∈ zWSL := zin_4 (List.mem_of_getElem? (i := 101) rfl) rfl
theorem zw_881 : (Jvm.Cond.instanceMethod ({ cls := "FigureCaller$Track", name := "place", desc := "(II)I" } : Jvm.MethodName)) ∈ zWSL := zin_4 (List.mem_of_getElem? (i := 102) rfl) rfl
theorem zw_882 : (Jvm.Cond.selects "FigureCaller$Track" ({ cls := "FigureCaller$Track", name := "place", desc := "(II)I" } : Jvm.MethodName) ({ cls := "FigureCaller$Track", name := "place", desc := "(II)I" } : Jvm.MethodName)) ∈ zWSL := zin_4 (List.mem_of_getElem? (i := 103) rfl) rfl
theorem zw_883 : (Jvm.Cond.code ({ cls := "FigureCaller$Track", name := "place", desc := "(II)I" } : Jvm.MethodName) prog_10_method_3_code (3 : Nat) (Option.some Jvm.ClassFile.FieldType.int)) ∈ zWSL := zin_4 (List.mem_of_getElem? (i := 104) rfl) rfl
theorem zw_884 : (Jvm.Cond.methodLink "FigureCallerLaw" (106 : Nat) ({ cls := "FigureCallerLaw", name := "select", desc := "(LFigureCaller;II[J)I" } : Jvm.MethodName)) ∈ zWSL := zin_4 (List.mem_of_getElem? (i := 105) rfl) rfl
theorem zw_885 : (Jvm.Cond.static ({ cls := "FigureCallerLaw", name := "select", desc := "(LFigureCaller;II[J)I" } : Jvm.MethodName)) ∈ zWSL := zin_4 (List.mem_of_getElem? (i := 106) rfl) rfl
theorem zw_886 : (Jvm.Cond.codeWith ({ cls := "FigureCallerLaw", name := "select", desc := "(LFigureCaller;II[J)I" } : Jvm.MethodName) method_10_code (5 : Nat) (Option.some Jvm.ClassFile.FieldType.int) [((0 : Nat), (17 : Nat), (20 : Nat), (13 : Nat))]) ∈ zWSL := zin_4 (List.mem_of_getElem? (i := 107) rfl) rfl
theorem zw_887 : (Jvm.Cond.methodLink "FigureCallerLaw" (39 : Nat) ({ cls := "FigureCaller", name := "select", desc := "(II)Z" } : Jvm.MethodName)) ∈ zWSL := zin_4 (List.mem_of_getElem? (i := 108) rfl) rfl
theorem zw_888 : (Jvm.Cond.instanceMethod ({ cls := "FigureCaller", name := "select", desc := "(II)Z" } : Jvm.MethodName)) ∈ zWSL := zin_4 (List.mem_of_getElem? (i := 109) rfl) rfl
theorem zw_889 : (Jvm.Cond.selects "FigureCaller" ({ cls := "FigureCaller", name := "select", desc := "(II)Z" } : Jvm.MethodName) ({ cls := "FigureCaller", name := "select", desc := "(II)Z" } : Jvm.MethodName)) ∈ zWSL := zin_4 (List.mem_of_getElem? (i := 110) rfl) rfl
theorem zw_890 : (Jvm.Cond.code ({ cls := "FigureCaller", name := "select", desc := "(II)Z" } : Jvm.MethodName) prog_1_method_14_code (3 : Nat) (Option.some Jvm.ClassFile.FieldType.boolean)) ∈ zWSL := zin_4 (List.mem_of_getElem? (i := 111) rfl) rfl
theorem zw_892 : (Jvm.Cond.methodLink "FigureCaller" (159 : Nat) ({ cls := "FigureCaller$Selection", name := "chosen", desc := "(I[II)I" } : Jvm.MethodName)) ∈ zWSL := zin_4 (List.mem_of_getElem? (i := 113) rfl) rfl
theorem zw_893 : (Jvm.Cond.methodLink "FigureCallerLaw" (113 : Nat) ({ cls := "FigureCallerLaw", name := "allow", desc := "(LFigureCaller;IZ)I" } : Jvm.MethodName)) ∈ zWSL := zin_4 (List.mem_of_getElem? (i := 114) rfl) rfl
theorem zw_894 : (Jvm.Cond.static ({ cls := "FigureCallerLaw", name := "allow", desc := "(LFigureCaller;IZ)I" } : Jvm.MethodName)) ∈ zWSL := zin_4 (List.mem_of_getElem? (i := 115) rfl) rfl
theorem zw_895 : (Jvm.Cond.codeWith ({ cls := "FigureCallerLaw", name := "allow", desc := "(LFigureCaller;IZ)I" } : Jvm.MethodName) method_11_code (4 : Nat) (Option.some Jvm.ClassFile.FieldType.int) [((0 : Nat), (6 : Nat), (9 : Nat), (13 : Nat)), ((0 : Nat), (6 : Nat), (12 : Nat), (15 : Nat))]) ∈ zWSL := zin_4 (List.mem_of_getElem? (i := 116) rfl) rfl
theorem zw_896 : (Jvm.Cond.methodLink "FigureCallerLaw" (43 : Nat) ({ cls := "FigureCaller", name := "allow", desc := "(IZ)V" } : Jvm.MethodName)) ∈ zWSL := zin_4 (List.mem_of_getElem? (i := 117) rfl) rfl
theorem zw_897 : (Jvm.Cond.instanceMethod ({ cls := "FigureCaller", name := "allow", desc := "(IZ)V" } : Jvm.MethodName)) ∈ zWSL := zin_4 (List.mem_of_getElem? (i := 118) rfl) rfl
theorem zw_898 : (Jvm.Cond.selects "FigureCaller" ({ cls := "FigureCaller", name := "allow", desc := "(IZ)V" } : Jvm.MethodName) ({ cls := "FigureCaller", name := "allow", desc := "(IZ)V" } : Jvm.MethodName)) ∈ zWSL := zin_4 (List.mem_of_getElem? (i := 119) rfl) rfl
theorem zw_899 : (Jvm.Cond.code ({ cls := "FigureCaller", name := "allow", desc := "(IZ)V" } : Jvm.MethodName) prog_1_method_16_code (3 : Nat) (Option.none : Option Jvm.ClassFile.FieldType)) ∈ zWSL := zin_4 (List.mem_of_getElem? (i := 120) rfl) rfl
theorem zw_900 : (Jvm.Cond.methodLink "FigureCaller" (171 : Nat) ({ cls := "FigureCaller$Book", name := "countAllowedBeside", desc := "(I)I" } : Jvm.MethodName)) ∈ zWSL := zin_4 (List.mem_of_getElem? (i := 121) rfl) rfl
theorem zw_901 : (Jvm.Cond.instanceMethod ({ cls := "FigureCaller$Book", name := "countAllowedBeside", desc := "(I)I" } : Jvm.MethodName)) ∈ zWSL := zin_4 (List.mem_of_getElem? (i := 122) rfl) rfl
theorem zw_902 : (Jvm.Cond.selects "FigureCaller$Book" ({ cls := "FigureCaller$Book", name := "countAllowedBeside", desc := "(I)I" } : Jvm.MethodName) ({ cls := "FigureCaller$Book", name := "countAllowedBeside", desc := "(I)I" } : Jvm.MethodName)) ∈ zWSL := zin_4 (List.mem_of_getElem? (i := 123) rfl) rfl
theorem zw_903 : (Jvm.Cond.code ({ cls := "FigureCaller$Book", name := "countAllowedBeside", desc := "(I)I" } : Jvm.MethodName) prog_2_method_9_code (4 : Nat) (Option.some Jvm.ClassFile.FieldType.int)) ∈ zWSL := zin_4 (List.mem_of_getElem? (i := 124) rfl) rfl
theorem zw_905 : (Jvm.Cond.methodLink "FigureCallerLaw" (121 : Nat) ({ cls := "FigureCallerLaw", name := "way", desc := "(LFigureCaller;I[J)I" } : Jvm.MethodName)) ∈ zWSL := zin_4 (List.mem_of_getElem? (i := 126) rfl) rfl
theorem zw_906 : (Jvm.Cond.static ({ cls := "FigureCallerLaw", name := "way", desc := "(LFigureCaller;I[J)I" } : Jvm.MethodName)) ∈ zWSL := zin_4 (List.mem_of_getElem? (i := 127) rfl) rfl
theorem zw_907 : (Jvm.Cond.codeWith ({ cls := "FigureCallerLaw", name := "way", desc := "(LFigureCaller;I[J)I" } : Jvm.MethodName) method_12_code (4 : Nat) (Option.some Jvm.ClassFile.FieldType.int) [((0 : Nat), (9 : Nat), (12 : Nat), (37 : Nat))]) ∈ zWSL := zin_4 (List.mem_of_getElem? (i := 128) rfl) rfl
theorem zw_908 : (Jvm.Cond.methodLink "FigureCallerLaw" (47 : Nat) ({ cls := "FigureCaller", name := "way", desc := "(I)I" } : Jvm.MethodName)) ∈ zWSL := zin_4 (List.mem_of_getElem? (i := 129) rfl) rfl
theorem zw_909 : (Jvm.Cond.instanceMethod ({ cls := "FigureCaller", name := "way", desc := "(I)I" } : Jvm.MethodName)) ∈ zWSL := zin_4 (List.mem_of_getElem? (i := 130) rfl) rfl
theorem zw_910 : (Jvm.Cond.selects "FigureCaller" ({ cls := "FigureCaller", name := "way", desc := "(I)I" } : Jvm.MethodName) ({ cls := "FigureCaller", name := "way", desc := "(I)I" } : Jvm.MethodName)) ∈ zWSL := zin_4 (List.mem_of_getElem? (i := 131) rfl) rfl
theorem zw_911 : (Jvm.Cond.code ({ cls := "FigureCaller", name := "way", desc := "(I)I" } : Jvm.MethodName) prog_1_method_18_code (2 : Nat) (Option.some Jvm.ClassFile.FieldType.int)) ∈ zWSL := zin_4 (List.mem_of_getElem? (i := 132) rfl) rfl
theorem zw_913 : (Jvm.Cond.methodLink "FigureCallerLaw" (124 : Nat) ({ cls := "FigureCallerLaw", name := "same", desc := "(LFigureCaller;II[J)I" } : Jvm.MethodName)) ∈ zWSL := zin_4 (List.mem_of_getElem? (i := 134) rfl) rfl
theorem zw_914 : (Jvm.Cond.static ({ cls := "FigureCallerLaw", name := "same", desc := "(LFigureCaller;II[J)I" } : Jvm.MethodName)) ∈ zWSL := zin_4 (List.mem_of_getElem? (i := 135) rfl) rfl
theorem zw_915 : (Jvm.Cond.codeWith ({ cls := "FigureCallerLaw", name := "same", desc := "(LFigureCaller;II[J)I" } : Jvm.MethodName) method_13_code (5 : Nat) (Option.some Jvm.ClassFile.FieldType.int) [((0 : Nat), (17 : Nat), (20 : Nat), (13 : Nat))]) ∈ zWSL := zin_4 (List.mem_of_getElem? (i := 136) rfl) rfl
theorem zw_916 : (Jvm.Cond.methodLink "FigureCallerLaw" (50 : Nat) ({ cls := "FigureCaller", name := "same", desc := "(II)Z" } : Jvm.MethodName)) ∈ zWSL := zin_4 (List.mem_of_getElem? (i := 137) rfl) rfl
theorem zw_917 : (Jvm.Cond.instanceMethod ({ cls := "FigureCaller", name := "same", desc := "(II)Z" } : Jvm.MethodName)) ∈ zWSL := zin_4 (List.mem_of_getElem? (i := 138) rfl) rfl
theorem zw_918 : (Jvm.Cond.selects "FigureCaller" ({ cls := "FigureCaller", name := "same", desc := "(II)Z" } : Jvm.MethodName) ({ cls := "FigureCaller", name := "same", desc := "(II)Z" } : Jvm.MethodName)) ∈ zWSL := zin_4 (List.mem_of_getElem? (i := 139) rfl) rfl
theorem zw_919 : (Jvm.Cond.code ({ cls := "FigureCaller", name := "same", desc := "(II)Z" } : Jvm.MethodName) prog_1_method_19_code (6 : Nat) (Option.some Jvm.ClassFile.FieldType.boolean)) ∈ zWSL := zin_4 (List.mem_of_getElem? (i := 140) rfl) rfl
theorem zw_920 : (Jvm.Cond.methodLink "FigureCaller" (200 : Nat) ({ cls := "FigureCaller$Track", name := "endsAs", desc := "(LFigureCaller$Track;)Z" } : Jvm.MethodName)) ∈ zWSL := zin_4 (List.mem_of_getElem? (i := 141) rfl) rfl
theorem zw_921 : (Jvm.Cond.instanceMethod ({ cls := "FigureCaller$Track", name := "endsAs", desc := "(LFigureCaller$Track;)Z" } : Jvm.MethodName)) ∈ zWSL := zin_4 (List.mem_of_getElem? (i := 142) rfl) rfl
theorem zw_922 : (Jvm.Cond.selects "FigureCaller$Track" ({ cls := "FigureCaller$Track", name := "endsAs", desc := "(LFigureCaller$Track;)Z" } : Jvm.MethodName) ({ cls := "FigureCaller$Track", name := "endsAs", desc := "(LFigureCaller$Track;)Z" } : Jvm.MethodName)) ∈ zWSL := zin_4 (List.mem_of_getElem? (i := 143) rfl) rfl
theorem zw_923 : (Jvm.Cond.code ({ cls := "FigureCaller$Track", name := "endsAs", desc := "(LFigureCaller$Track;)Z" } : Jvm.MethodName) prog_10_method_6_code (3 : Nat) (Option.some Jvm.ClassFile.FieldType.boolean)) ∈ zWSL := zin_4 (List.mem_of_getElem? (i := 144) rfl) rfl
theorem zw_924 : (Jvm.Cond.methodLink "FigureCaller$Track" (29 : Nat) ({ cls := "FigureCaller$Track", name := "place", desc := "(II)I" } : Jvm.MethodName)) ∈ zWSL := zin_4 (List.mem_of_getElem? (i := 145) rfl) rfl
theorem zw_925 : (Jvm.Cond.classLink "FigureCallerLaw" (54 : Nat) "FigureCallerModel") ∈ zWSL := zin_4 (List.mem_of_getElem? (i := 146) rfl) rfl
theorem zw_926 : (Jvm.Cond.instantiable "FigureCallerModel" (41 : Nat)) ∈ zWSL := zin_4 (List.mem_of_getElem? (i := 147) rfl) rfl
theorem zw_927 : (Jvm.Cond.methodLink "FigureCallerLaw" (56 : Nat) ({ cls := "FigureCallerModel", name := "<init>", desc := "()V" } : Jvm.MethodName)) ∈ zWSL := zin_4 (List.mem_of_getElem? (i := 148) rfl) rfl
theorem zw_928 : (Jvm.Cond.instanceMethod ({ cls := "FigureCallerModel", name := "<init>", desc := "()V" } : Jvm.MethodName)) ∈ zWSL := zin_4 (List.mem_of_getElem? (i := 149) rfl) rfl
theorem zw_929 : (Jvm.Cond.code ({ cls := "FigureCallerModel", name := "<init>", desc := "()V" } : Jvm.MethodName) prog_13_method_1_code (2 : Nat) (Option.none : Option Jvm.ClassFile.FieldType)) ∈ zWSL := zin_4 (List.mem_of_getElem? (i := 150) rfl) rfl
theorem zw_930 : (Jvm.Cond.methodLink "FigureCallerModel" (1 : Nat) ({ cls := "java/lang/Object", name := "<init>", desc := "()V" } : Jvm.MethodName)) ∈ zWSL := zin_4 (List.mem_of_getElem? (i := 151) rfl) rfl
theorem zw_931 : (Jvm.Cond.methodLink "FigureCallerModel" (95 : Nat) ({ cls := "FigureCallerModel", name := "homeX", desc := "(I)I" } : Jvm.MethodName)) ∈ zWSL := zin_4 (List.mem_of_getElem? (i := 152) rfl) rfl
theorem zw_932 : (Jvm.Cond.static ({ cls := "FigureCallerModel", name := "homeX", desc := "(I)I" } : Jvm.MethodName)) ∈ zWSL := zin_4 (List.mem_of_getElem? (i := 153) rfl) rfl
theorem zw_933 : (Jvm.Cond.code ({ cls := "FigureCallerModel", name := "homeX", desc := "(I)I" } : Jvm.MethodName) prog_13_method_3_code (1 : Nat) (Option.some Jvm.ClassFile.FieldType.int)) ∈ zWSL := zin_4 (List.mem_of_getElem? (i := 154) rfl) rfl
theorem zw_934 : (Jvm.Cond.methodLink "FigureCallerModel" (99 : Nat) ({ cls := "FigureCallerModel", name := "homeY", desc := "(I)I" } : Jvm.MethodName)) ∈ zWSL := zin_4 (List.mem_of_getElem? (i := 155) rfl) rfl
theorem zw_935 : (Jvm.Cond.static ({ cls := "FigureCallerModel", name := "homeY", desc := "(I)I" } : Jvm.MethodName)) ∈ zWSL := zin_4 (List.mem_of_getElem? (i := 156) rfl) rfl
theorem zw_936 : (Jvm.Cond.code ({ cls := "FigureCallerModel", name := "homeY", desc := "(I)I" } : Jvm.MethodName) prog_13_method_4_code (1 : Nat) (Option.some Jvm.ClassFile.FieldType.int)) ∈ zWSL := zin_4 (List.mem_of_getElem? (i := 157) rfl) rfl
theorem zw_937 : (Jvm.Cond.methodLink "FigureCallerModel" (102 : Nat) ({ cls := "FigureCallerModel", name := "homeF", desc := "(I)I" } : Jvm.MethodName)) ∈ zWSL := zin_4 (List.mem_of_getElem? (i := 158) rfl) rfl
theorem zw_938 : (Jvm.Cond.static ({ cls := "FigureCallerModel", name := "homeF", desc := "(I)I" } : Jvm.MethodName)) ∈ zWSL := zin_4 (List.mem_of_getElem? (i := 159) rfl) rfl
theorem zw_939 : (Jvm.Cond.code ({ cls := "FigureCallerModel", name := "homeF", desc := "(I)I" } : Jvm.MethodName) prog_13_method_5_code (1 : Nat) (Option.some Jvm.ClassFile.FieldType.int)) ∈ zWSL := zin_4 (List.mem_of_getElem? (i := 160) rfl) rfl
theorem zw_940 : (Jvm.Cond.fieldLink "FigureCallerModel" (105 : Nat) "FigureCallerModel" "code" "I") ∈ zWSL := zin_4 (List.mem_of_getElem? (i := 161) rfl) rfl
theorem zw_941 : (Jvm.Cond.fieldLink "FigureCallerModel" (110 : Nat) "FigureCallerModel" "typed" "I") ∈ zWSL := zin_4 (List.mem_of_getElem? (i := 162) rfl) rfl
theorem zw_942 : (Jvm.Cond.fieldLink "FigureCallerModel" (7 : Nat) "FigureCallerModel" "text" "[C") ∈ zWSL := zin_4 (List.mem_of_getElem? (i := 163) rfl) rfl
theorem zw_943 : (Jvm.Cond.fieldLink "FigureCallerModel" (13 : Nat) "FigureCallerModel" "fault" "I") ∈ zWSL := zin_4 (List.mem_of_getElem? (i := 164) rfl) rfl
theorem zw_944 : (Jvm.Cond.fieldLink "FigureCallerModel" (123 : Nat) "FigureCallerModel" "kind" "I") ∈ zWSL := zin_4 (List.mem_of_getElem? (i := 165) rfl) rfl
theorem zw_945 : (Jvm.Cond.fieldLink "FigureCallerModel" (116 : Nat) "FigureCallerModel" "begin" "I") ∈ zWSL := zin_4 (List.mem_of_getElem? (i := 166) rfl) rfl
theorem zw_946 : (Jvm.Cond.fieldLink "FigureCallerModel" (113 : Nat) "FigureCallerModel" "end" "I") ∈ zWSL := zin_4 (List.mem_of_getElem? (i := 167) rfl) rfl
theorem zw_947 : (Jvm.Cond.fieldLink "FigureCallerModel" (130 : Nat) "FigureCallerModel" "word" "J") ∈ zWSL := zin_4 (List.mem_of_getElem? (i := 168) rfl) rfl
theorem zw_948 : (Jvm.Cond.fieldLink "FigureCallerModel" (139 : Nat) "FigureCallerModel" "number" "I") ∈ zWSL := zin_4 (List.mem_of_getElem? (i := 169) rfl) rfl
theorem zw_949 : (Jvm.Cond.fieldLink "FigureCallerModel" (192 : Nat) "FigureCallerModel" "calls" "I") ∈ zWSL := zin_4 (List.mem_of_getElem? (i := 170) rfl) rfl
theorem zw_950 : (Jvm.Cond.fieldLink "FigureCallerModel" (17 : Nat) "FigureCallerModel" "names" "[J") ∈ zWSL := zin_4 (List.mem_of_getElem? (i := 171) rfl) rfl
theorem zw_951 : (Jvm.Cond.fieldLink "FigureCallerModel" (21 : Nat) "FigureCallerModel" "counts" "[I") ∈ zWSL := zin_4 (List.mem_of_getElem? (i := 172) rfl) rfl
theorem zw_952 : (Jvm.Cond.fieldLink "FigureCallerModel" (25 : Nat) "FigureCallerModel" "depths" "[I") ∈ zWSL := zin_4 (List.mem_of_getElem? (i := 173) rfl) rfl
theorem zw_953 : (Jvm.Cond.fieldLink "FigureCallerModel" (28 : Nat) "FigureCallerModel" "taken" "[I") ∈ zWSL := zin_4 (List.mem_of_getElem? (i := 174) rfl) rfl
theorem zw_954 : (Jvm.Cond.fieldLink "FigureCallerModel" (31 : Nat) "FigureCallerModel" "partFrom" "[I") ∈ zWSL := zin_4 (List.mem_of_getElem? (i := 175) rfl) rfl
theorem zw_955 : (Jvm.Cond.fieldLink "FigureCallerModel" (34 : Nat) "FigureCallerModel" "partTo" "[I") ∈ zWSL := zin_4 (List.mem_of_getElem? (i := 176) rfl) rfl
theorem zw_956 : (Jvm.Cond.fieldLink "FigureCallerModel" (195 : Nat) "FigureCallerModel" "parts" "I") ∈ zWSL := zin_4 (List.mem_of_getElem? (i := 177) rfl) rfl
theorem zw_957 : (Jvm.Cond.fieldLink "FigureCallerModel" (37 : Nat) "FigureCallerModel" "selectors" "[I") ∈ zWSL := zin_4 (List.mem_of_getElem? (i := 178) rfl) rfl
theorem zw_958 : (Jvm.Cond.fieldLink "FigureCallerModel" (40 : Nat) "FigureCallerModel" "atoms" "[I") ∈ zWSL := zin_4 (List.mem_of_getElem? (i := 179) rfl) rfl
theorem zw_959 : (Jvm.Cond.fieldLink "FigureCallerModel" (223 : Nat) "FigureCallerModel" "open" "I") ∈ zWSL := zin_4 (List.mem_of_getElem? (i := 180) rfl) rfl
theorem zw_960 : (Jvm.Cond.fieldLink "FigureCallerModel" (43 : Nat) "FigureCallerModel" "times" "[I") ∈ zWSL := zin_4 (List.mem_of_getElem? (i := 181) rfl) rfl
theorem zw_961 : (Jvm.Cond.fieldLink "FigureCallerModel" (46 : Nat) "FigureCallerModel" "opened" "[I") ∈ zWSL := zin_4 (List.mem_of_getElem? (i := 182) rfl) rfl
theorem zw_962 : (Jvm.Cond.fieldLink "FigureCallerModel" (49 : Nat) "FigureCallerModel" "x" "[I") ∈ zWSL := zin_4 (List.mem_of_getElem? (i := 183) rfl) rfl
theorem zw_963 : (Jvm.Cond.fieldLink "FigureCallerModel" (52 : Nat) "FigureCallerModel" "y" "[I") ∈ zWSL := zin_4 (List.mem_of_getElem? (i := 184) rfl) rfl
theorem zw_964 : (Jvm.Cond.fieldLink "FigureCallerModel" (55 : Nat) "FigureCallerModel" "f" "[I") ∈ zWSL := zin_4 (List.mem_of_getElem? (i := 185) rfl) rfl
theorem zw_965 : (Jvm.Cond.fieldLink "FigureCallerModel" (58 : Nat) "FigureCallerModel" "atX" "[I") ∈ zWSL := zin_4 (List.mem_of_getElem? (i := 186) rfl) rfl
theorem zw_966 : (Jvm.Cond.fieldLink "FigureCallerModel" (61 : Nat) "FigureCallerModel" "atY" "[I") ∈ zWSL := zin_4 (List.mem_of_getElem? (i := 187) rfl) rfl
theorem zw_967 : (Jvm.Cond.fieldLink "FigureCallerModel" (64 : Nat) "FigureCallerModel" "atF" "[I") ∈ zWSL := zin_4 (List.mem_of_getElem? (i := 188) rfl) rfl
theorem zw_968 : (Jvm.Cond.fieldLink "FigureCallerModel" (281 : Nat) "FigureCallerModel" "beat" "I") ∈ zWSL := zin_4 (List.mem_of_getElem? (i := 189) rfl) rfl
theorem zw_969 : (Jvm.Cond.fieldLink "FigureCallerModel" (278 : Nat) "FigureCallerModel" "failed" "I") ∈ zWSL := zin_4 (List.mem_of_getElem? (i := 190) rfl) rfl
theorem zw_970 : (Jvm.Cond.fieldLink "FigureCallerModel" (294 : Nat) "FigureCallerModel" "clash" "I") ∈ zWSL := zin_4 (List.mem_of_getElem? (i := 191) rfl) rfl
theorem zw_971 : (Jvm.Cond.fieldLink "FigureCallerModel" (284 : Nat) "FigureCallerModel" "danced" "I") ∈ zWSL := zin_4 (List.mem_of_getElem? (i := 192) rfl) rfl
theorem zw_972 : (Jvm.Cond.fieldLink "FigureCallerModel" (67 : Nat) "FigureCallerModel" "which" "[I") ∈ zWSL := zin_4 (List.mem_of_getElem? (i := 193) rfl) rfl
theorem zw_973 : (Jvm.Cond.fieldLink "FigureCallerModel" (70 : Nat) "FigureCallerModel" "backs" "[Z") ∈ zWSL := zin_4 (List.mem_of_getElem? (i := 194) rfl) rfl
theorem zw_974 : (Jvm.Cond.fieldLink "FigureCallerModel" (74 : Nat) "FigureCallerModel" "before" "[I") ∈ zWSL := zin_4 (List.mem_of_getElem? (i := 195) rfl) rfl
theorem zw_975 : (Jvm.Cond.fieldLink "FigureCallerModel" (77 : Nat) "FigureCallerModel" "allowed" "[Z") ∈ zWSL := zin_4 (List.mem_of_getElem? (i := 196) rfl) rfl
theorem zw_976 : (Jvm.Cond.fieldLink "FigureCallerModel" (80 : Nat) "FigureCallerModel" "found" "I") ∈ zWSL := zin_4 (List.mem_of_getElem? (i := 197) rfl) rfl
theorem zw_977 : (Jvm.Cond.fieldLink "FigureCallerModel" (83 : Nat) "FigureCallerModel" "way" "[I") ∈ zWSL := zin_4 (List.mem_of_getElem? (i := 198) rfl) rfl
theorem zw_978 : (Jvm.Cond.fieldLink "FigureCallerModel" (86 : Nat) "FigureCallerModel" "trial" "[I") ∈ zWSL := zin_4 (List.mem_of_getElem? (i := 199) rfl) rfl
theorem zw_979 : (Jvm.Cond.fieldLink "FigureCallerModel" (89 : Nat) "FigureCallerModel" "steps" "[I") ∈ zWSL := zin_4 (List.mem_of_getElem? (i := 200) rfl) rfl
theorem zw_980 : (Jvm.Cond.fieldLink "FigureCallerModel" (92 : Nat) "FigureCallerModel" "kept" "[I") ∈ zWSL := zin_4 (List.mem_of_getElem? (i := 201) rfl) rfl
theorem zw_981 : (Jvm.Cond.lays "FigureCallerModel" "FigureCallerModel" "code" "I") ∈ zWSL := zin_4 (List.mem_of_getElem? (i := 202) rfl) rfl
theorem zw_983 : (Jvm.Cond.lays "FigureCallerModel" "FigureCallerModel" "typed" "I") ∈ zWSL := zin_4 (List.mem_of_getElem? (i := 204) rfl) rfl
theorem zw_985 : (Jvm.Cond.laysFinal "FigureCallerModel" "FigureCallerModel" "text" "[C") ∈ zWSL := zin_4 (List.mem_of_getElem? (i := 206) rfl) rfl
theorem zw_987 : (Jvm.Cond.lays "FigureCallerModel" "FigureCallerModel" "fault" "I") ∈ zWSL := zin_4 (List.mem_of_getElem? (i := 208) rfl) rfl
theorem zw_989 : (Jvm.Cond.lays "FigureCallerModel" "FigureCallerModel" "kind" "I") ∈ zWSL := zin_4 (List.mem_of_getElem? (i := 210) rfl) rfl
theorem zw_991 : (Jvm.Cond.lays "FigureCallerModel" "FigureCallerModel" "begin" "I") ∈ zWSL := zin_4 (List.mem_of_getElem? (i := 212) rfl) rfl
theorem zw_993 : (Jvm.Cond.lays "FigureCallerModel" "FigureCallerModel" "end" "I") ∈ zWSL := zin_4 (List.mem_of_getElem? (i := 214) rfl) rfl
theorem zw_995 : (Jvm.Cond.lays "FigureCallerModel" "FigureCallerModel" "word" "J") ∈ zWSL := zin_4 (List.mem_of_getElem? (i := 216) rfl) rfl
theorem zw_997 : (Jvm.Cond.lays "FigureCallerModel" "FigureCallerModel" "number" "I") ∈ zWSL := zin_4 (List.mem_of_getElem? (i := 218) rfl) rfl
theorem zw_999 : (Jvm.Cond.lays "FigureCallerModel" "FigureCallerModel" "calls" "I") ∈ zWSL := zin_4 (List.mem_of_getElem? (i := 220) rfl) rfl
theorem zw_1001 : (Jvm.Cond.laysFinal "FigureCallerModel" "FigureCallerModel" "names" "[J") ∈ zWSL := zin_4 (List.mem_of_getElem? (i := 222) rfl) rfl
theorem zw_1003 : (Jvm.Cond.laysFinal "FigureCallerModel" "FigureCallerModel" "counts" "[I") ∈ zWSL := zin_4 (List.mem_of_getElem? (i := 224) rfl) rfl
theorem zw_1005 : (Jvm.Cond.laysFinal "FigureCallerModel" "FigureCallerModel" "depths" "[I") ∈ zWSL := zin_4 (List.mem_of_getElem? (i := 226) rfl) rfl
theorem zw_1007 : (Jvm.Cond.laysFinal "FigureCallerModel" "FigureCallerModel" "taken" "[I") ∈ zWSL := zin_4 (List.mem_of_getElem? (i := 228) rfl) rfl
theorem zw_1009 : (Jvm.Cond.laysFinal "FigureCallerModel" "FigureCallerModel" "partFrom" "[I") ∈ zWSL := zin_4 (List.mem_of_getElem? (i := 230) rfl) rfl
theorem zw_1011 : (Jvm.Cond.laysFinal "FigureCallerModel" "FigureCallerModel" "partTo" "[I") ∈ zWSL := zin_4 (List.mem_of_getElem? (i := 232) rfl) rfl
theorem zw_1013 : (Jvm.Cond.lays "FigureCallerModel" "FigureCallerModel" "parts" "I") ∈ zWSL := zin_4 (List.mem_of_getElem? (i := 234) rfl) rfl
theorem zw_1015 : (Jvm.Cond.laysFinal "FigureCallerModel" "FigureCallerModel" "selectors" "[I") ∈ zWSL := zin_4 (List.mem_of_getElem? (i := 236) rfl) rfl
theorem zw_1017 : (Jvm.Cond.laysFinal "FigureCallerModel" "FigureCallerModel" "atoms" "[I") ∈ zWSL := zin_4 (List.mem_of_getElem? (i := 238) rfl) rfl
theorem zw_1019 : (Jvm.Cond.lays "FigureCallerModel" "FigureCallerModel" "open" "I") ∈ zWSL := zin_5 (List.mem_of_getElem? (i := 0) rfl) rfl
theorem zw_1021 : (Jvm.Cond.laysFinal "FigureCallerModel" "FigureCallerModel" "times" "[I") ∈ zWSL := zin_5 (List.mem_of_getElem? (i := 2) rfl) rfl
theorem zw_1023 : (Jvm.Cond.laysFinal "FigureCallerModel" "FigureCallerModel" "opened" "[I") ∈ zWSL := zin_5 (List.mem_of_getElem? (i := 4) rfl) rfl
theorem zw_1025 : (Jvm.Cond.laysFinal "FigureCallerModel" "FigureCallerModel" "x" "[I") ∈ zWSL := zin_5 (List.mem_of_getElem? (i := 6) rfl) rfl
theorem zw_1027 : (Jvm.Cond.laysFinal "FigureCallerModel" "FigureCallerModel" "y" "[I") ∈ zWSL := zin_5 (List.mem_of_getElem? (i := 8) rfl) rfl
theorem zw_1029 : (Jvm.Cond.laysFinal "FigureCallerModel" "FigureCallerModel" "f" "[I") ∈ zWSL := zin_5 (List.mem_of_getElem? (i := 10) rfl) rfl
theorem zw_1031 : (Jvm.Cond.laysFinal "FigureCallerModel" "FigureCallerModel" "atX" "[I") ∈ zWSL := zin_5 (List.mem_of_getElem? (i := 12) rfl) rfl
theorem zw_1033 : (Jvm.Cond.laysFinal "FigureCallerModel" "FigureCallerModel" "atY" "[I") ∈ zWSL := zin_5 (List.mem_of_getElem? (i := 14) rfl) rfl
theorem zw_1035 : (Jvm.Cond.laysFinal "FigureCallerModel" "FigureCallerModel" "atF" "[I") ∈ zWSL := zin_5 (List.mem_of_getElem? (i := 16) rfl) rfl
theorem zw_1037 : (Jvm.Cond.lays "FigureCallerModel" "FigureCallerModel" "beat" "I") ∈ zWSL := zin_5 (List.mem_of_getElem? (i := 18) rfl) rfl
theorem zw_1039 : (Jvm.Cond.lays "FigureCallerModel" "FigureCallerModel" "failed" "I") ∈ zWSL := zin_5 (List.mem_of_getElem? (i := 20) rfl) rfl
theorem zw_1041 : (Jvm.Cond.lays "FigureCallerModel" "FigureCallerModel" "clash" "I") ∈ zWSL := zin_5 (List.mem_of_getElem? (i := 22) rfl) rfl
theorem zw_1043 : (Jvm.Cond.lays "FigureCallerModel" "FigureCallerModel" "danced" "I") ∈ zWSL := zin_5 (List.mem_of_getElem? (i := 24) rfl) rfl
theorem zw_1045 : (Jvm.Cond.laysFinal "FigureCallerModel" "FigureCallerModel" "which" "[I") ∈ zWSL := zin_5 (List.mem_of_getElem? (i := 26) rfl) rfl
theorem zw_1047 : (Jvm.Cond.laysFinal "FigureCallerModel" "FigureCallerModel" "backs" "[Z") ∈ zWSL := zin_5 (List.mem_of_getElem? (i := 28) rfl) rfl
theorem zw_1049 : (Jvm.Cond.laysFinal "FigureCallerModel" "FigureCallerModel" "before" "[I") ∈ zWSL := zin_5 (List.mem_of_getElem? (i := 30) rfl) rfl
theorem zw_1051 : (Jvm.Cond.laysFinal "FigureCallerModel" "FigureCallerModel" "allowed" "[Z") ∈ zWSL := zin_5 (List.mem_of_getElem? (i := 32) rfl) rfl
theorem zw_1053 : (Jvm.Cond.lays "FigureCallerModel" "FigureCallerModel" "found" "I") ∈ zWSL := zin_5 (List.mem_of_getElem? (i := 34) rfl) rfl
theorem zw_1055 : (Jvm.Cond.laysFinal "FigureCallerModel" "FigureCallerModel" "way" "[I") ∈ zWSL := zin_5 (List.mem_of_getElem? (i := 36) rfl) rfl
theorem zw_1057 : (Jvm.Cond.laysFinal "FigureCallerModel" "FigureCallerModel" "trial" "[I") ∈ zWSL := zin_5 (List.mem_of_getElem? (i := 38) rfl) rfl
theorem zw_1059 : (Jvm.Cond.laysFinal "FigureCallerModel" "FigureCallerModel" "steps" "[I") ∈ zWSL := zin_5 (List.mem_of_getElem? (i := 40) rfl) rfl
theorem zw_1061 : (Jvm.Cond.laysFinal "FigureCallerModel" "FigureCallerModel" "kept" "[I") ∈ zWSL := zin_5 (List.mem_of_getElem? (i := 42) rfl) rfl
theorem zw_1064 : (Jvm.Cond.arrayClass Jvm.ClassFile.FieldType.long) ∈ zWSL := zin_5 (List.mem_of_getElem? (i := 45) rfl) rfl
theorem zw_1065 : (Jvm.Cond.arrayClass Jvm.ClassFile.FieldType.boolean) ∈ zWSL := zin_5 (List.mem_of_getElem? (i := 46) rfl) rfl
theorem zw_1066 : (Jvm.Cond.methodLink "FigureCallerLaw" (127 : Nat) ({ cls := "FigureCallerModel", name := "thrown", desc := "()I" } : Jvm.MethodName)) ∈ zWSL := zin_5 (List.mem_of_getElem? (i := 47) rfl) rfl
theorem zw_1067 : (Jvm.Cond.instanceMethod ({ cls := "FigureCallerModel", name := "thrown", desc := "()I" } : Jvm.MethodName)) ∈ zWSL := zin_5 (List.mem_of_getElem? (i := 48) rfl) rfl
theorem zw_1068 : (Jvm.Cond.selects "FigureCallerModel" ({ cls := "FigureCallerModel", name := "thrown", desc := "()I" } : Jvm.MethodName) ({ cls := "FigureCallerModel", name := "thrown", desc := "()I" } : Jvm.MethodName)) ∈ zWSL := zin_5 (List.mem_of_getElem? (i := 49) rfl) rfl
theorem zw_1069 : (Jvm.Cond.code ({ cls := "FigureCallerModel", name := "thrown", desc := "()I" } : Jvm.MethodName) prog_13_method_2_code (1 : Nat) (Option.some Jvm.ClassFile.FieldType.int)) ∈ zWSL := zin_5 (List.mem_of_getElem? (i := 50) rfl) rfl
theorem zw_1070 : (Jvm.Cond.methodLink "FigureCallerLaw" (63 : Nat) ({ cls := "FigureCallerModel", name := "write", desc := "(J)Z" } : Jvm.MethodName)) ∈ zWSL := zin_5 (List.mem_of_getElem? (i := 51) rfl) rfl
theorem zw_1071 : (Jvm.Cond.instanceMethod ({ cls := "FigureCallerModel", name := "write", desc := "(J)Z" } : Jvm.MethodName)) ∈ zWSL := zin_5 (List.mem_of_getElem? (i := 52) rfl) rfl
theorem zw_1072 : (Jvm.Cond.selects "FigureCallerModel" ({ cls := "FigureCallerModel", name := "write", desc := "(J)Z" } : Jvm.MethodName) ({ cls := "FigureCallerModel", name := "write", desc := "(J)Z" } : Jvm.MethodName)) ∈ zWSL := zin_5 (List.mem_of_getElem? (i := 53) rfl) rfl
theorem zw_1073 : (Jvm.Cond.code ({ cls := "FigureCallerModel", name := "write", desc := "(J)Z" } : Jvm.MethodName) prog_13_method_6_code (6 : Nat) (Option.some Jvm.ClassFile.FieldType.boolean)) ∈ zWSL := zin_5 (List.mem_of_getElem? (i := 54) rfl) rfl
theorem zw_1074 : (Jvm.Cond.constantLong "FigureCallerModel" (108 : Nat) (255 : Int64)) ∈ zWSL := zin_5 (List.mem_of_getElem? (i := 55) rfl) rfl
theorem zw_1075 : (Jvm.Cond.methodLink "FigureCallerLaw" (67 : Nat) ({ cls := "FigureCallerModel", name := "wipe", desc := "()I" } : Jvm.MethodName)) ∈ zWSL := zin_5 (List.mem_of_getElem? (i := 56) rfl) rfl
theorem zw_1076 : (Jvm.Cond.instanceMethod ({ cls := "FigureCallerModel", name := "wipe", desc := "()I" } : Jvm.MethodName)) ∈ zWSL := zin_5 (List.mem_of_getElem? (i := 57) rfl) rfl
theorem zw_1077 : (Jvm.Cond.selects "FigureCallerModel" ({ cls := "FigureCallerModel", name := "wipe", desc := "()I" } : Jvm.MethodName) ({ cls := "FigureCallerModel", name := "wipe", desc := "()I" } : Jvm.MethodName)) ∈ zWSL := zin_5 (List.mem_of_getElem? (i := 58) rfl) rfl
theorem zw_1078 : (Jvm.Cond.code ({ cls := "FigureCallerModel", name := "wipe", desc := "()I" } : Jvm.MethodName) prog_13_method_7_code (2 : Nat) (Option.some Jvm.ClassFile.FieldType.int)) ∈ zWSL := zin_5 (List.mem_of_getElem? (i := 59) rfl) rfl
theorem zw_1079 : (Jvm.Cond.methodLink "FigureCallerLaw" (73 : Nat) ({ cls := "FigureCallerModel", name := "define", desc := "()I" } : Jvm.MethodName)) ∈ zWSL := zin_5 (List.mem_of_getElem? (i := 60) rfl) rfl
theorem zw_1080 : (Jvm.Cond.instanceMethod ({ cls := "FigureCallerModel", name := "define", desc := "()I" } : Jvm.MethodName)) ∈ zWSL := zin_5 (List.mem_of_getElem? (i := 61) rfl) rfl
theorem zw_1081 : (Jvm.Cond.selects "FigureCallerModel" ({ cls := "FigureCallerModel", name := "define", desc := "()I" } : Jvm.MethodName) ({ cls := "FigureCallerModel", name := "define", desc := "()I" } : Jvm.MethodName)) ∈ zWSL := zin_5 (List.mem_of_getElem? (i := 62) rfl) rfl
theorem zw_1082 : (Jvm.Cond.code ({ cls := "FigureCallerModel", name := "define", desc := "()I" } : Jvm.MethodName) prog_13_method_24_code (4 : Nat) (Option.some Jvm.ClassFile.FieldType.int)) ∈ zWSL := zin_5 (List.mem_of_getElem? (i := 63) rfl) rfl
theorem zw_1083 : (Jvm.Cond.methodLink "FigureCallerModel" (232 : Nat) ({ cls := "FigureCallerModel", name := "read", desc := "()I" } : Jvm.MethodName)) ∈ zWSL := zin_5 (List.mem_of_getElem? (i := 64) rfl) rfl
theorem zw_1085 : (Jvm.Cond.instanceMethod ({ cls := "FigureCallerModel", name := "read", desc := "()I" } : Jvm.MethodName)) ∈ zWSL := zin_5 (List.mem_of_getElem? (i := 66) rfl) rfl
theorem zw_1086 : (Jvm.Cond.code ({ cls := "FigureCallerModel", name := "read", desc := "()I" } : Jvm.MethodName) prog_13_method_23_code (4 : Nat) (Option.some Jvm.ClassFile.FieldType.int)) ∈ zWSL := zin_5 (List.mem_of_getElem? (i := 67) rfl) rfl
theorem zw_1087 : (Jvm.Cond.methodLink "FigureCallerModel" (142 : Nat) ({ cls := "FigureCallerModel", name := "next", desc := "()V" } : Jvm.MethodName)) ∈ zWSL := zin_5 (List.mem_of_getElem? (i := 68) rfl) rfl
theorem zw_1089 : (Jvm.Cond.instanceMethod ({ cls := "FigureCallerModel", name := "next", desc := "()V" } : Jvm.MethodName)) ∈ zWSL := zin_5 (List.mem_of_getElem? (i := 70) rfl) rfl
theorem zw_1090 : (Jvm.Cond.code ({ cls := "FigureCallerModel", name := "next", desc := "()V" } : Jvm.MethodName) prog_13_method_11_code (2 : Nat) (Option.none : Option Jvm.ClassFile.FieldType)) ∈ zWSL := zin_5 (List.mem_of_getElem? (i := 71) rfl) rfl
theorem zw_1091 : (Jvm.Cond.methodLink "FigureCallerModel" (119 : Nat) ({ cls := "FigureCallerModel", name := "see", desc := "(I)C" } : Jvm.MethodName)) ∈ zWSL := zin_5 (List.mem_of_getElem? (i := 72) rfl) rfl
theorem zw_1093 : (Jvm.Cond.instanceMethod ({ cls := "FigureCallerModel", name := "see", desc := "(I)C" } : Jvm.MethodName)) ∈ zWSL := zin_5 (List.mem_of_getElem? (i := 74) rfl) rfl
theorem zw_1094 : (Jvm.Cond.code ({ cls := "FigureCallerModel", name := "see", desc := "(I)C" } : Jvm.MethodName) prog_13_method_8_code (2 : Nat) (Option.some Jvm.ClassFile.FieldType.char)) ∈ zWSL := zin_5 (List.mem_of_getElem? (i := 75) rfl) rfl
theorem zw_1095 : (Jvm.Cond.methodLink "FigureCallerModel" (126 : Nat) ({ cls := "FigureCallerModel", name := "isLetter", desc := "(C)Z" } : Jvm.MethodName)) ∈ zWSL := zin_5 (List.mem_of_getElem? (i := 76) rfl) rfl
theorem zw_1096 : (Jvm.Cond.static ({ cls := "FigureCallerModel", name := "isLetter", desc := "(C)Z" } : Jvm.MethodName)) ∈ zWSL := zin_5 (List.mem_of_getElem? (i := 77) rfl) rfl
theorem zw_1097 : (Jvm.Cond.code ({ cls := "FigureCallerModel", name := "isLetter", desc := "(C)Z" } : Jvm.MethodName) prog_13_method_9_code (1 : Nat) (Option.some Jvm.ClassFile.FieldType.boolean)) ∈ zWSL := zin_5 (List.mem_of_getElem? (i := 78) rfl) rfl
theorem zw_1098 : (Jvm.Cond.constantLong "FigureCallerModel" (134 : Nat) (-1 : Int64)) ∈ zWSL := zin_5 (List.mem_of_getElem? (i := 79) rfl) rfl
theorem zw_1099 : (Jvm.Cond.methodLink "FigureCallerModel" (136 : Nat) ({ cls := "FigureCallerModel", name := "isDigit", desc := "(C)Z" } : Jvm.MethodName)) ∈ zWSL := zin_5 (List.mem_of_getElem? (i := 80) rfl) rfl
theorem zw_1100 : (Jvm.Cond.static ({ cls := "FigureCallerModel", name := "isDigit", desc := "(C)Z" } : Jvm.MethodName)) ∈ zWSL := zin_5 (List.mem_of_getElem? (i := 81) rfl) rfl
theorem zw_1101 : (Jvm.Cond.code ({ cls := "FigureCallerModel", name := "isDigit", desc := "(C)Z" } : Jvm.MethodName) prog_13_method_10_code (1 : Nat) (Option.some Jvm.ClassFile.FieldType.boolean)) ∈ zWSL := zin_5 (List.mem_of_getElem? (i := 82) rfl) rfl
theorem zw_1102 : (Jvm.Cond.methodLink "FigureCallerModel" (198 : Nat) ({ cls := "FigureCallerModel", name := "selector", desc := "()I" } : Jvm.MethodName)) ∈ zWSL := zin_5 (List.mem_of_getElem? (i := 83) rfl) rfl
theorem zw_1104 : (Jvm.Cond.instanceMethod ({ cls := "FigureCallerModel", name := "selector", desc := "()I" } : Jvm.MethodName)) ∈ zWSL := zin_5 (List.mem_of_getElem? (i := 85) rfl) rfl
theorem zw_1105 : (Jvm.Cond.code ({ cls := "FigureCallerModel", name := "selector", desc := "()I" } : Jvm.MethodName) prog_13_method_15_code (3 : Nat) (Option.some Jvm.ClassFile.FieldType.int)) ∈ zWSL := zin_5 (List.mem_of_getElem? (i := 86) rfl) rfl
theorem zw_1106 : (Jvm.Cond.methodLink "FigureCallerModel" (185 : Nat) ({ cls := "FigureCallerModel", name := "selectorWord", desc := "(I)J" } : Jvm.MethodName)) ∈ zWSL := zin_5 (List.mem_of_getElem? (i := 87) rfl) rfl
theorem zw_1107 : (Jvm.Cond.static ({ cls := "FigureCallerModel", name := "selectorWord", desc := "(I)J" } : Jvm.MethodName)) ∈ zWSL := zin_5 (List.mem_of_getElem? (i := 88) rfl) rfl
theorem zw_1108 : (Jvm.Cond.code ({ cls := "FigureCallerModel", name := "selectorWord", desc := "(I)J" } : Jvm.MethodName) prog_13_method_13_code (1 : Nat) (Option.some Jvm.ClassFile.FieldType.long)) ∈ zWSL := zin_5 (List.mem_of_getElem? (i := 89) rfl) rfl
theorem zw_1109 : (Jvm.Cond.constantLong "FigureCallerModel" (145 : Nat) (12673 : Int64)) ∈ zWSL := zin_5 (List.mem_of_getElem? (i := 90) rfl) rfl
theorem zw_1110 : (Jvm.Cond.constantLong "FigureCallerModel" (147 : Nat) (20055212 : Int64)) ∈ zWSL := zin_5 (List.mem_of_getElem? (i := 91) rfl) rfl
theorem zw_1111 : (Jvm.Cond.constantLong "FigureCallerModel" (149 : Nat) (21188981222 : Int64)) ∈ zWSL := zin_5 (List.mem_of_getElem? (i := 92) rfl) rfl
theorem zw_1112 : (Jvm.Cond.constantLong "FigureCallerModel" (151 : Nat) (20055208 : Int64)) ∈ zWSL := zin_5 (List.mem_of_getElem? (i := 93) rfl) rfl
theorem zw_1113 : (Jvm.Cond.constantLong "FigureCallerModel" (153 : Nat) (20091187 : Int64)) ∈ zWSL := zin_5 (List.mem_of_getElem? (i := 94) rfl) rfl
theorem zw_1114 : (Jvm.Cond.constantLong "FigureCallerModel" (155 : Nat) (9062894 : Int64)) ∈ zWSL := zin_5 (List.mem_of_getElem? (i := 95) rfl) rfl
theorem zw_1115 : (Jvm.Cond.constantLong "FigureCallerModel" (157 : Nat) (674853 : Int64)) ∈ zWSL := zin_5 (List.mem_of_getElem? (i := 96) rfl) rfl
theorem zw_1116 : (Jvm.Cond.constantLong "FigureCallerModel" (159 : Nat) (9065971 : Int64)) ∈ zWSL := zin_5 (List.mem_of_getElem? (i := 97) rfl) rfl
theorem zw_1117 : (Jvm.Cond.constantLong "FigureCallerModel" (161 : Nat) (674999 : Int64)) ∈ zWSL := zin_5 (List.mem_of_getElem? (i := 98) rfl) rfl
theorem zw_1118 : (Jvm.Cond.constantLong "FigureCallerModel" (163 : Nat) (20588411043 : Int64)) ∈ zWSL := zin_5 (List.mem_of_getElem? (i := 99) rfl) rfl
theorem zw_1119 : (Jvm.Cond.constantLong "FigureCallerModel" (165 : Nat) (627141 : Int64)) ∈ zWSL := zin_5 (List.mem_of_getElem? (i := 100) rfl) rfl
theorem zw_1120 : (Jvm.Cond.constantLong "FigureCallerModel" (167 : Nat) (21446214 : Int64)) ∈ zWSL := zin_5 (List.mem_of_getElem? (i := 101) rfl) rfl
theorem zw_1121 : (Jvm.Cond.constantLong "FigureCallerModel" (169 : Nat) (591026 : Int64)) ∈ zWSL := zin_5 (List.mem_of_getElem? (i := 102) rfl) rfl
theorem zw_1122 : (Jvm.Cond.methodLink "FigureCallerModel" (202 : Nat) ({ cls := "FigureCallerModel", name := "atom", desc := "()I" } : Jvm.MethodName)) ∈ zWSL := zin_5 (List.mem_of_getElem? (i := 103) rfl) rfl
theorem zw_1124 : (Jvm.Cond.instanceMethod ({ cls := "FigureCallerModel", name := "atom", desc := "()I" } : Jvm.MethodName)) ∈ zWSL := zin_5 (List.mem_of_getElem? (i := 105) rfl) rfl
theorem zw_1125 : (Jvm.Cond.code ({ cls := "FigureCallerModel", name := "atom", desc := "()I" } : Jvm.MethodName) prog_13_method_16_code (3 : Nat) (Option.some Jvm.ClassFile.FieldType.int)) ∈ zWSL := zin_5 (List.mem_of_getElem? (i := 106) rfl) rfl
theorem zw_1126 : (Jvm.Cond.methodLink "FigureCallerModel" (189 : Nat) ({ cls := "FigureCallerModel", name := "atomWord", desc := "(I)J" } : Jvm.MethodName)) ∈ zWSL := zin_5 (List.mem_of_getElem? (i := 107) rfl) rfl
theorem zw_1127 : (Jvm.Cond.static ({ cls := "FigureCallerModel", name := "atomWord", desc := "(I)J" } : Jvm.MethodName)) ∈ zWSL := zin_5 (List.mem_of_getElem? (i := 108) rfl) rfl
theorem zw_1128 : (Jvm.Cond.code ({ cls := "FigureCallerModel", name := "atomWord", desc := "(I)J" } : Jvm.MethodName) prog_13_method_14_code (1 : Nat) (Option.some Jvm.ClassFile.FieldType.long)) ∈ zWSL := zin_5 (List.mem_of_getElem? (i := 109) rfl) rfl
theorem zw_1129 : (Jvm.Cond.constantLong "FigureCallerModel" (171 : Nat) (820883 : Int64)) ∈ zWSL := zin_5 (List.mem_of_getElem? (i := 110) rfl) rfl
theorem zw_1130 : (Jvm.Cond.constantLong "FigureCallerModel" (173 : Nat) (4838 : Int64)) ∈ zWSL := zin_5 (List.mem_of_getElem? (i := 111) rfl) rfl
theorem zw_1131 : (Jvm.Cond.constantLong "FigureCallerModel" (175 : Nat) (363554 : Int64)) ∈ zWSL := zin_5 (List.mem_of_getElem? (i := 112) rfl) rfl
theorem zw_1132 : (Jvm.Cond.constantLong "FigureCallerModel" (177 : Nat) (661676 : Int64)) ∈ zWSL := zin_5 (List.mem_of_getElem? (i := 113) rfl) rfl
theorem zw_1133 : (Jvm.Cond.constantLong "FigureCallerModel" (179 : Nat) (21241138 : Int64)) ∈ zWSL := zin_5 (List.mem_of_getElem? (i := 114) rfl) rfl
theorem zw_1134 : (Jvm.Cond.constantLong "FigureCallerModel" (181 : Nat) (404 : Int64)) ∈ zWSL := zin_5 (List.mem_of_getElem? (i := 115) rfl) rfl
theorem zw_1135 : (Jvm.Cond.constantLong "FigureCallerModel" (183 : Nat) (596 : Int64)) ∈ zWSL := zin_5 (List.mem_of_getElem? (i := 116) rfl) rfl
theorem zw_1136 : (Jvm.Cond.methodLink "FigureCallerModel" (212 : Nat) ({ cls := "FigureCallerModel", name := "old", desc := "()I" } : Jvm.MethodName)) ∈ zWSL := zin_5 (List.mem_of_getElem? (i := 117) rfl) rfl
theorem zw_1138 : (Jvm.Cond.instanceMethod ({ cls := "FigureCallerModel", name := "old", desc := "()I" } : Jvm.MethodName)) ∈ zWSL := zin_5 (List.mem_of_getElem? (i := 119) rfl) rfl
theorem zw_1139 : (Jvm.Cond.code ({ cls := "FigureCallerModel", name := "old", desc := "()I" } : Jvm.MethodName) prog_13_method_17_code (3 : Nat) (Option.some Jvm.ClassFile.FieldType.int)) ∈ zWSL := zin_5 (List.mem_of_getElem? (i := 120) rfl) rfl
theorem zw_1140 : (Jvm.Cond.methodLink "FigureCallerModel" (205 : Nat) ({ cls := "FigureCallerModel", name := "passes", desc := "(C)Z" } : Jvm.MethodName)) ∈ zWSL := zin_5 (List.mem_of_getElem? (i := 121) rfl) rfl
theorem zw_1142 : (Jvm.Cond.instanceMethod ({ cls := "FigureCallerModel", name := "passes", desc := "(C)Z" } : Jvm.MethodName)) ∈ zWSL := zin_5 (List.mem_of_getElem? (i := 123) rfl) rfl
theorem zw_1143 : (Jvm.Cond.code ({ cls := "FigureCallerModel", name := "passes", desc := "(C)Z" } : Jvm.MethodName) prog_13_method_12_code (3 : Nat) (Option.some Jvm.ClassFile.FieldType.boolean)) ∈ zWSL := zin_5 (List.mem_of_getElem? (i := 124) rfl) rfl
theorem zw_1144 : (Jvm.Cond.methodLink "FigureCallerModel" (226 : Nat) ({ cls := "FigureCallerModel", name := "readStep", desc := "()Z" } : Jvm.MethodName)) ∈ zWSL := zin_5 (List.mem_of_getElem? (i := 125) rfl) rfl
theorem zw_1146 : (Jvm.Cond.instanceMethod ({ cls := "FigureCallerModel", name := "readStep", desc := "()Z" } : Jvm.MethodName)) ∈ zWSL := zin_5 (List.mem_of_getElem? (i := 127) rfl) rfl
theorem zw_1147 : (Jvm.Cond.code ({ cls := "FigureCallerModel", name := "readStep", desc := "()Z" } : Jvm.MethodName) prog_13_method_21_code (2 : Nat) (Option.some Jvm.ClassFile.FieldType.boolean)) ∈ zWSL := zin_5 (List.mem_of_getElem? (i := 128) rfl) rfl
theorem zw_1148 : (Jvm.Cond.methodLink "FigureCallerModel" (215 : Nat) ({ cls := "FigureCallerModel", name := "readBeat", desc := "()Z" } : Jvm.MethodName)) ∈ zWSL := zin_5 (List.mem_of_getElem? (i := 129) rfl) rfl
theorem zw_1150 : (Jvm.Cond.instanceMethod ({ cls := "FigureCallerModel", name := "readBeat", desc := "()Z" } : Jvm.MethodName)) ∈ zWSL := zin_5 (List.mem_of_getElem? (i := 131) rfl) rfl
theorem zw_1151 : (Jvm.Cond.code ({ cls := "FigureCallerModel", name := "readBeat", desc := "()Z" } : Jvm.MethodName) prog_13_method_19_code (5 : Nat) (Option.some Jvm.ClassFile.FieldType.boolean)) ∈ zWSL := zin_5 (List.mem_of_getElem? (i := 132) rfl) rfl
theorem zw_1152 : (Jvm.Cond.methodLink "FigureCallerModel" (208 : Nat) ({ cls := "FigureCallerModel", name := "append", desc := "(III)V" } : Jvm.MethodName)) ∈ zWSL := zin_5 (List.mem_of_getElem? (i := 133) rfl) rfl
theorem zw_1154 : (Jvm.Cond.instanceMethod ({ cls := "FigureCallerModel", name := "append", desc := "(III)V" } : Jvm.MethodName)) ∈ zWSL := zin_5 (List.mem_of_getElem? (i := 135) rfl) rfl
theorem zw_1155 : (Jvm.Cond.code ({ cls := "FigureCallerModel", name := "append", desc := "(III)V" } : Jvm.MethodName) prog_13_method_18_code (4 : Nat) (Option.none : Option Jvm.ClassFile.FieldType)) ∈ zWSL := zin_5 (List.mem_of_getElem? (i := 136) rfl) rfl
theorem zw_1156 : (Jvm.Cond.methodLink "FigureCallerModel" (219 : Nat) ({ cls := "FigureCallerModel", name := "appendOld", desc := "(I)V" } : Jvm.MethodName)) ∈ zWSL := zin_5 (List.mem_of_getElem? (i := 137) rfl) rfl
theorem zw_1158 : (Jvm.Cond.instanceMethod ({ cls := "FigureCallerModel", name := "appendOld", desc := "(I)V" } : Jvm.MethodName)) ∈ zWSL := zin_5 (List.mem_of_getElem? (i := 139) rfl) rfl
theorem zw_1159 : (Jvm.Cond.code ({ cls := "FigureCallerModel", name := "appendOld", desc := "(I)V" } : Jvm.MethodName) prog_13_method_20_code (4 : Nat) (Option.none : Option Jvm.ClassFile.FieldType)) ∈ zWSL := zin_5 (List.mem_of_getElem? (i := 140) rfl) rfl
theorem zw_1160 : (Jvm.Cond.methodLink "FigureCallerModel" (229 : Nat) ({ cls := "FigureCallerModel", name := "close", desc := "()V" } : Jvm.MethodName)) ∈ zWSL := zin_5 (List.mem_of_getElem? (i := 141) rfl) rfl
theorem zw_1162 : (Jvm.Cond.instanceMethod ({ cls := "FigureCallerModel", name := "close", desc := "()V" } : Jvm.MethodName)) ∈ zWSL := zin_5 (List.mem_of_getElem? (i := 143) rfl) rfl
theorem zw_1163 : (Jvm.Cond.code ({ cls := "FigureCallerModel", name := "close", desc := "()V" } : Jvm.MethodName) prog_13_method_22_code (6 : Nat) (Option.none : Option Jvm.ClassFile.FieldType)) ∈ zWSL := zin_5 (List.mem_of_getElem? (i := 144) rfl) rfl
theorem zw_1164 : (Jvm.Cond.methodLink "FigureCallerLaw" (77 : Nat) ({ cls := "FigureCallerModel", name := "fault", desc := "()I" } : Jvm.MethodName)) ∈ zWSL := zin_5 (List.mem_of_getElem? (i := 145) rfl) rfl
theorem zw_1165 : (Jvm.Cond.instanceMethod ({ cls := "FigureCallerModel", name := "fault", desc := "()I" } : Jvm.MethodName)) ∈ zWSL := zin_5 (List.mem_of_getElem? (i := 146) rfl) rfl
theorem zw_1166 : (Jvm.Cond.selects "FigureCallerModel" ({ cls := "FigureCallerModel", name := "fault", desc := "()I" } : Jvm.MethodName) ({ cls := "FigureCallerModel", name := "fault", desc := "()I" } : Jvm.MethodName)) ∈ zWSL := zin_5 (List.mem_of_getElem? (i := 147) rfl) rfl
theorem zw_1167 : (Jvm.Cond.code ({ cls := "FigureCallerModel", name := "fault", desc := "()I" } : Jvm.MethodName) prog_13_method_25_code (1 : Nat) (Option.some Jvm.ClassFile.FieldType.int)) ∈ zWSL := zin_5 (List.mem_of_getElem? (i := 148) rfl) rfl
theorem zw_1168 : (Jvm.Cond.methodLink "FigureCallerLaw" (81 : Nat) ({ cls := "FigureCallerModel", name := "beats", desc := "(I)I" } : Jvm.MethodName)) ∈ zWSL := zin_5 (List.mem_of_getElem? (i := 149) rfl) rfl
theorem zw_1169 : (Jvm.Cond.instanceMethod ({ cls := "FigureCallerModel", name := "beats", desc := "(I)I" } : Jvm.MethodName)) ∈ zWSL := zin_5 (List.mem_of_getElem? (i := 150) rfl) rfl
theorem zw_1170 : (Jvm.Cond.selects "FigureCallerModel" ({ cls := "FigureCallerModel", name := "beats", desc := "(I)I" } : Jvm.MethodName) ({ cls := "FigureCallerModel", name := "beats", desc := "(I)I" } : Jvm.MethodName)) ∈ zWSL := zin_5 (List.mem_of_getElem? (i := 151) rfl) rfl
theorem zw_1171 : (Jvm.Cond.code ({ cls := "FigureCallerModel", name := "beats", desc := "(I)I" } : Jvm.MethodName) prog_13_method_27_code (2 : Nat) (Option.some Jvm.ClassFile.FieldType.int)) ∈ zWSL := zin_5 (List.mem_of_getElem? (i := 152) rfl) rfl
theorem zw_1172 : (Jvm.Cond.methodLink "FigureCallerModel" (235 : Nat) ({ cls := "FigureCallerModel", name := "isCall", desc := "(I)Z" } : Jvm.MethodName)) ∈ zWSL := zin_5 (List.mem_of_getElem? (i := 153) rfl) rfl
theorem zw_1174 : (Jvm.Cond.instanceMethod ({ cls := "FigureCallerModel", name := "isCall", desc := "(I)Z" } : Jvm.MethodName)) ∈ zWSL := zin_5 (List.mem_of_getElem? (i := 155) rfl) rfl
theorem zw_1175 : (Jvm.Cond.code ({ cls := "FigureCallerModel", name := "isCall", desc := "(I)Z" } : Jvm.MethodName) prog_13_method_26_code (2 : Nat) (Option.some Jvm.ClassFile.FieldType.boolean)) ∈ zWSL := zin_5 (List.mem_of_getElem? (i := 156) rfl) rfl
theorem zw_1176 : (Jvm.Cond.methodLink "FigureCallerLaw" (84 : Nat) ({ cls := "FigureCallerModel", name := "dance", desc := "(I)I" } : Jvm.MethodName)) ∈ zWSL := zin_5 (List.mem_of_getElem? (i := 157) rfl) rfl
theorem zw_1177 : (Jvm.Cond.instanceMethod ({ cls := "FigureCallerModel", name := "dance", desc := "(I)I" } : Jvm.MethodName)) ∈ zWSL := zin_5 (List.mem_of_getElem? (i := 158) rfl) rfl
theorem zw_1178 : (Jvm.Cond.selects "FigureCallerModel" ({ cls := "FigureCallerModel", name := "dance", desc := "(I)I" } : Jvm.MethodName) ({ cls := "FigureCallerModel", name := "dance", desc := "(I)I" } : Jvm.MethodName)) ∈ zWSL := zin_5 (List.mem_of_getElem? (i := 159) rfl) rfl
theorem zw_1179 : (Jvm.Cond.code ({ cls := "FigureCallerModel", name := "dance", desc := "(I)I" } : Jvm.MethodName) prog_13_method_43_code (2 : Nat) (Option.some Jvm.ClassFile.FieldType.int)) ∈ zWSL := zin_5 (List.mem_of_getElem? (i := 160) rfl) rfl
theorem zw_1180 : (Jvm.Cond.methodLink "FigureCallerModel" (300 : Nat) ({ cls := "FigureCallerModel", name := "perform", desc := "(IZ)I" } : Jvm.MethodName)) ∈ zWSL := zin_5 (List.mem_of_getElem? (i := 161) rfl) rfl
theorem zw_1182 : (Jvm.Cond.instanceMethod ({ cls := "FigureCallerModel", name := "perform", desc := "(IZ)I" } : Jvm.MethodName)) ∈ zWSL := zin_5 (List.mem_of_getElem? (i := 163) rfl) rfl
theorem zw_1183 : (Jvm.Cond.code ({ cls := "FigureCallerModel", name := "perform", desc := "(IZ)I" } : Jvm.MethodName) prog_13_method_42_code (4 : Nat) (Option.some Jvm.ClassFile.FieldType.int)) ∈ zWSL := zin_5 (List.mem_of_getElem? (i := 164) rfl) rfl
theorem zw_1184 : (Jvm.Cond.methodLink "FigureCallerModel" (287 : Nat) ({ cls := "FigureCallerModel", name := "place", desc := "()V" } : Jvm.MethodName)) ∈ zWSL := zin_5 (List.mem_of_getElem? (i := 165) rfl) rfl
theorem zw_1186 : (Jvm.Cond.instanceMethod ({ cls := "FigureCallerModel", name := "place", desc := "()V" } : Jvm.MethodName)) ∈ zWSL := zin_5 (List.mem_of_getElem? (i := 167) rfl) rfl
theorem zw_1187 : (Jvm.Cond.code ({ cls := "FigureCallerModel", name := "place", desc := "()V" } : Jvm.MethodName) prog_13_method_34_code (2 : Nat) (Option.none : Option Jvm.ClassFile.FieldType)) ∈ zWSL := zin_5 (List.mem_of_getElem? (i := 168) rfl) rfl
theorem zw_1188 : (Jvm.Cond.methodLink "FigureCallerModel" (290 : Nat) ({ cls := "FigureCallerModel", name := "run", desc := "(IZ)Z" } : Jvm.MethodName)) ∈ zWSL := zin_5 (List.mem_of_getElem? (i := 169) rfl) rfl
theorem zw_1190 : (Jvm.Cond.instanceMethod ({ cls := "FigureCallerModel", name := "run", desc := "(IZ)Z" } : Jvm.MethodName)) ∈ zWSL := zin_5 (List.mem_of_getElem? (i := 171) rfl) rfl
theorem zw_1191 : (Jvm.Cond.code ({ cls := "FigureCallerModel", name := "run", desc := "(IZ)Z" } : Jvm.MethodName) prog_13_method_40_code (10 : Nat) (Option.some Jvm.ClassFile.FieldType.boolean)) ∈ zWSL := zin_5 (List.mem_of_getElem? (i := 172) rfl) rfl
theorem zw_1192 : (Jvm.Cond.methodLink "FigureCallerModel" (266 : Nat) ({ cls := "FigureCallerModel", name := "move", desc := "(III)V" } : Jvm.MethodName)) ∈ zWSL := zin_5 (List.mem_of_getElem? (i := 173) rfl) rfl
theorem zw_1194 : (Jvm.Cond.instanceMethod ({ cls := "FigureCallerModel", name := "move", desc := "(III)V" } : Jvm.MethodName)) ∈ zWSL := zin_5 (List.mem_of_getElem? (i := 175) rfl) rfl
theorem zw_1195 : (Jvm.Cond.code ({ cls := "FigureCallerModel", name := "move", desc := "(III)V" } : Jvm.MethodName) prog_13_method_36_code (7 : Nat) (Option.none : Option Jvm.ClassFile.FieldType)) ∈ zWSL := zin_5 (List.mem_of_getElem? (i := 176) rfl) rfl
theorem zw_1196 : (Jvm.Cond.methodLink "FigureCallerModel" (248 : Nat) ({ cls := "FigureCallerModel", name := "dx", desc := "(I)I" } : Jvm.MethodName)) ∈ zWSL := zin_5 (List.mem_of_getElem? (i := 177) rfl) rfl
theorem zw_1197 : (Jvm.Cond.static ({ cls := "FigureCallerModel", name := "dx", desc := "(I)I" } : Jvm.MethodName)) ∈ zWSL := zin_5 (List.mem_of_getElem? (i := 178) rfl) rfl
theorem zw_1198 : (Jvm.Cond.code ({ cls := "FigureCallerModel", name := "dx", desc := "(I)I" } : Jvm.MethodName) prog_13_method_28_code (1 : Nat) (Option.some Jvm.ClassFile.FieldType.int)) ∈ zWSL := zin_5 (List.mem_of_getElem? (i := 179) rfl) rfl
theorem zw_1199 : (Jvm.Cond.methodLink "FigureCallerModel" (245 : Nat) ({ cls := "FigureCallerModel", name := "dy", desc := "(I)I" } : Jvm.MethodName)) ∈ zWSL := zin_5 (List.mem_of_getElem? (i := 180) rfl) rfl
theorem zw_1200 : (Jvm.Cond.static ({ cls := "FigureCallerModel", name := "dy", desc := "(I)I" } : Jvm.MethodName)) ∈ zWSL := zin_5 (List.mem_of_getElem? (i := 181) rfl) rfl
theorem zw_1201 : (Jvm.Cond.code ({ cls := "FigureCallerModel", name := "dy", desc := "(I)I" } : Jvm.MethodName) prog_13_method_29_code (1 : Nat) (Option.some Jvm.ClassFile.FieldType.int)) ∈ zWSL := zin_5 (List.mem_of_getElem? (i := 182) rfl) rfl
theorem zw_1202 : (Jvm.Cond.methodLink "FigureCallerModel" (269 : Nat) ({ cls := "FigureCallerModel", name := "has", desc := "(II)I" } : Jvm.MethodName)) ∈ zWSL := zin_5 (List.mem_of_getElem? (i := 183) rfl) rfl
theorem zw_1204 : (Jvm.Cond.instanceMethod ({ cls := "FigureCallerModel", name := "has", desc := "(II)I" } : Jvm.MethodName)) ∈ zWSL := zin_5 (List.mem_of_getElem? (i := 185) rfl) rfl
theorem zw_1205 : (Jvm.Cond.code ({ cls := "FigureCallerModel", name := "has", desc := "(II)I" } : Jvm.MethodName) prog_13_method_33_code (5 : Nat) (Option.some Jvm.ClassFile.FieldType.int)) ∈ zWSL := zin_5 (List.mem_of_getElem? (i := 186) rfl) rfl
theorem zw_1206 : (Jvm.Cond.methodLink "FigureCallerModel" (251 : Nat) ({ cls := "FigureCallerModel", name := "centres", desc := "(I)I" } : Jvm.MethodName)) ∈ zWSL := zin_5 (List.mem_of_getElem? (i := 187) rfl) rfl
theorem zw_1208 : (Jvm.Cond.instanceMethod ({ cls := "FigureCallerModel", name := "centres", desc := "(I)I" } : Jvm.MethodName)) ∈ zWSL := zin_5 (List.mem_of_getElem? (i := 189) rfl) rfl
theorem zw_1209 : (Jvm.Cond.code ({ cls := "FigureCallerModel", name := "centres", desc := "(I)I" } : Jvm.MethodName) prog_13_method_31_code (6 : Nat) (Option.some Jvm.ClassFile.FieldType.int)) ∈ zWSL := zin_5 (List.mem_of_getElem? (i := 190) rfl) rfl
theorem zw_1210 : (Jvm.Cond.methodLink "FigureCallerModel" (241 : Nat) ({ cls := "FigureCallerModel", name := "farness", desc := "(II)J" } : Jvm.MethodName)) ∈ zWSL := zin_5 (List.mem_of_getElem? (i := 191) rfl) rfl
theorem zw_1212 : (Jvm.Cond.instanceMethod ({ cls := "FigureCallerModel", name := "farness", desc := "(II)J" } : Jvm.MethodName)) ∈ zWSL := zin_5 (List.mem_of_getElem? (i := 193) rfl) rfl
theorem zw_1213 : (Jvm.Cond.code ({ cls := "FigureCallerModel", name := "farness", desc := "(II)J" } : Jvm.MethodName) prog_13_method_30_code (9 : Nat) (Option.some Jvm.ClassFile.FieldType.long)) ∈ zWSL := zin_5 (List.mem_of_getElem? (i := 194) rfl) rfl
theorem zw_1214 : (Jvm.Cond.constantLong "FigureCallerModel" (239 : Nat) (100 : Int64)) ∈ zWSL := zin_5 (List.mem_of_getElem? (i := 195) rfl) rfl
theorem zw_1215 : (Jvm.Cond.methodLink "FigureCallerModel" (254 : Nat) ({ cls := "FigureCallerModel", name := "alone", desc := "(II)I" } : Jvm.MethodName)) ∈ zWSL := zin_5 (List.mem_of_getElem? (i := 196) rfl) rfl
theorem zw_1217 : (Jvm.Cond.instanceMethod ({ cls := "FigureCallerModel", name := "alone", desc := "(II)I" } : Jvm.MethodName)) ∈ zWSL := zin_5 (List.mem_of_getElem? (i := 198) rfl) rfl
theorem zw_1218 : (Jvm.Cond.code ({ cls := "FigureCallerModel", name := "alone", desc := "(II)I" } : Jvm.MethodName) prog_13_method_32_code (11 : Nat) (Option.some Jvm.ClassFile.FieldType.int)) ∈ zWSL := zin_5 (List.mem_of_getElem? (i := 199) rfl) rfl
theorem zw_1219 : (Jvm.Cond.methodLink "FigureCallerModel" (272 : Nat) ({ cls := "FigureCallerModel", name := "exchanged", desc := "(I)I" } : Jvm.MethodName)) ∈ zWSL := zin_5 (List.mem_of_getElem? (i := 200) rfl) rfl
theorem zw_1220 : (Jvm.Cond.static ({ cls := "FigureCallerModel", name := "exchanged", desc := "(I)I" } : Jvm.MethodName)) ∈ zWSL := zin_5 (List.mem_of_getElem? (i := 201) rfl) rfl
theorem zw_1221 : (Jvm.Cond.code ({ cls := "FigureCallerModel", name := "exchanged", desc := "(I)I" } : Jvm.MethodName) prog_13_method_35_code (1 : Nat) (Option.some Jvm.ClassFile.FieldType.int)) ∈ zWSL := zin_5 (List.mem_of_getElem? (i := 202) rfl) rfl
theorem zw_1222 : (Jvm.Cond.methodLink "FigureCallerModel" (275 : Nat) ({ cls := "FigureCallerModel", name := "wrong", desc := "(I)I" } : Jvm.MethodName)) ∈ zWSL := zin_5 (List.mem_of_getElem? (i := 203) rfl) rfl
theorem zw_1224 : (Jvm.Cond.instanceMethod ({ cls := "FigureCallerModel", name := "wrong", desc := "(I)I" } : Jvm.MethodName)) ∈ zWSL := zin_5 (List.mem_of_getElem? (i := 205) rfl) rfl
theorem zw_1225 : (Jvm.Cond.code ({ cls := "FigureCallerModel", name := "wrong", desc := "(I)I" } : Jvm.MethodName) prog_13_method_39_code (9 : Nat) (Option.some Jvm.ClassFile.FieldType.int)) ∈ zWSL := zin_5 (List.mem_of_getElem? (i := 206) rfl) rfl
theorem zw_1226 : (Jvm.Cond.methodLink "FigureCallerModel" (258 : Nat) ({ cls := "FigureCallerModel", name := "isAt", desc := "(II)Z" } : Jvm.MethodName)) ∈ zWSL := zin_5 (List.mem_of_getElem? (i := 207) rfl) rfl
theorem zw_1228 : (Jvm.Cond.instanceMethod ({ cls := "FigureCallerModel", name := "isAt", desc := "(II)Z" } : Jvm.MethodName)) ∈ zWSL := zin_5 (List.mem_of_getElem? (i := 209) rfl) rfl
theorem zw_1229 : (Jvm.Cond.code ({ cls := "FigureCallerModel", name := "isAt", desc := "(II)Z" } : Jvm.MethodName) prog_13_method_37_code (3 : Nat) (Option.some Jvm.ClassFile.FieldType.boolean)) ∈ zWSL := zin_5 (List.mem_of_getElem? (i := 210) rfl) rfl
theorem zw_1230 : (Jvm.Cond.methodLink "FigureCallerModel" (262 : Nat) ({ cls := "FigureCallerModel", name := "looks", desc := "(III)Z" } : Jvm.MethodName)) ∈ zWSL := zin_5 (List.mem_of_getElem? (i := 211) rfl) rfl
theorem zw_1232 : (Jvm.Cond.instanceMethod ({ cls := "FigureCallerModel", name := "looks", desc := "(III)Z" } : Jvm.MethodName)) ∈ zWSL := zin_5 (List.mem_of_getElem? (i := 213) rfl) rfl
theorem zw_1233 : (Jvm.Cond.code ({ cls := "FigureCallerModel", name := "looks", desc := "(III)Z" } : Jvm.MethodName) prog_13_method_38_code (5 : Nat) (Option.some Jvm.ClassFile.FieldType.boolean)) ∈ zWSL := zin_5 (List.mem_of_getElem? (i := 214) rfl) rfl
theorem zw_1234 : (Jvm.Cond.methodLink "FigureCallerModel" (297 : Nat) ({ cls := "FigureCallerModel", name := "stand", desc := "(I)V" } : Jvm.MethodName)) ∈ zWSL := zin_5 (List.mem_of_getElem? (i := 215) rfl) rfl
theorem zw_1236 : (Jvm.Cond.instanceMethod ({ cls := "FigureCallerModel", name := "stand", desc := "(I)V" } : Jvm.MethodName)) ∈ zWSL := zin_5 (List.mem_of_getElem? (i := 217) rfl) rfl
theorem zw_1237 : (Jvm.Cond.code ({ cls := "FigureCallerModel", name := "stand", desc := "(I)V" } : Jvm.MethodName) prog_13_method_41_code (3 : Nat) (Option.none : Option Jvm.ClassFile.FieldType)) ∈ zWSL := zin_5 (List.mem_of_getElem? (i := 218) rfl) rfl
theorem zw_1238 : (Jvm.Cond.methodLink "FigureCallerLaw" (87 : Nat) ({ cls := "FigureCallerModel", name := "backward", desc := "(I)I" } : Jvm.MethodName)) ∈ zWSL := zin_5 (List.mem_of_getElem? (i := 219) rfl) rfl
theorem zw_1239 : (Jvm.Cond.instanceMethod ({ cls := "FigureCallerModel", name := "backward", desc := "(I)I" } : Jvm.MethodName)) ∈ zWSL := zin_5 (List.mem_of_getElem? (i := 220) rfl) rfl
theorem zw_1240 : (Jvm.Cond.selects "FigureCallerModel" ({ cls := "FigureCallerModel", name := "backward", desc := "(I)I" } : Jvm.MethodName) ({ cls := "FigureCallerModel", name := "backward", desc := "(I)I" } : Jvm.MethodName)) ∈ zWSL := zin_5 (List.mem_of_getElem? (i := 221) rfl) rfl
theorem zw_1241 : (Jvm.Cond.code ({ cls := "FigureCallerModel", name := "backward", desc := "(I)I" } : Jvm.MethodName) prog_13_method_44_code (2 : Nat) (Option.some Jvm.ClassFile.FieldType.int)) ∈ zWSL := zin_5 (List.mem_of_getElem? (i := 222) rfl) rfl
theorem zw_1242 : (Jvm.Cond.methodLink "FigureCallerLaw" (91 : Nat) ({ cls := "FigureCallerModel", name := "clash", desc := "()I" } : Jvm.MethodName)) ∈ zWSL := zin_5 (List.mem_of_getElem? (i := 223) rfl) rfl
theorem zw_1243 : (Jvm.Cond.instanceMethod ({ cls := "FigureCallerModel", name := "clash", desc := "()I" } : Jvm.MethodName)) ∈ zWSL := zin_5 (List.mem_of_getElem? (i := 224) rfl) rfl
theorem zw_1244 : (Jvm.Cond.selects "FigureCallerModel" ({ cls := "FigureCallerModel", name := "clash", desc := "()I" } : Jvm.MethodName) ({ cls := "FigureCallerModel", name := "clash", desc := "()I" } : Jvm.MethodName)) ∈ zWSL := zin_5 (List.mem_of_getElem? (i := 225) rfl) rfl
theorem zw_1245 : (Jvm.Cond.code ({ cls := "FigureCallerModel", name := "clash", desc := "()I" } : Jvm.MethodName) prog_13_method_45_code (1 : Nat) (Option.some Jvm.ClassFile.FieldType.int)) ∈ zWSL := zin_5 (List.mem_of_getElem? (i := 226) rfl) rfl
theorem zw_1246 : (Jvm.Cond.methodLink "FigureCallerLaw" (94 : Nat) ({ cls := "FigureCallerModel", name := "undo", desc := "()I" } : Jvm.MethodName)) ∈ zWSL := zin_5 (List.mem_of_getElem? (i := 227) rfl) rfl
theorem zw_1247 : (Jvm.Cond.instanceMethod ({ cls := "FigureCallerModel", name := "undo", desc := "()I" } : Jvm.MethodName)) ∈ zWSL := zin_5 (List.mem_of_getElem? (i := 228) rfl) rfl
theorem zw_1248 : (Jvm.Cond.selects "FigureCallerModel" ({ cls := "FigureCallerModel", name := "undo", desc := "()I" } : Jvm.MethodName) ({ cls := "FigureCallerModel", name := "undo", desc := "()I" } : Jvm.MethodName)) ∈ zWSL := zin_5 (List.mem_of_getElem? (i := 229) rfl) rfl
theorem zw_1249 : (Jvm.Cond.code ({ cls := "FigureCallerModel", name := "undo", desc := "()I" } : Jvm.MethodName) prog_13_method_47_code (2 : Nat) (Option.some Jvm.ClassFile.FieldType.int)) ∈ zWSL := zin_5 (List.mem_of_getElem? (i := 230) rfl) rfl
theorem zw_1250 : (Jvm.Cond.methodLink "FigureCallerModel" (304 : Nat) ({ cls := "FigureCallerModel", name := "bring", desc := "(II)V" } : Jvm.MethodName)) ∈ zWSL := zin_5 (List.mem_of_getElem? (i := 231) rfl) rfl
theorem zw_1252 : (Jvm.Cond.instanceMethod ({ cls := "FigureCallerModel", name := "bring", desc := "(II)V" } : Jvm.MethodName)) ∈ zWSL := zin_5 (List.mem_of_getElem? (i := 233) rfl) rfl
theorem zw_1253 : (Jvm.Cond.code ({ cls := "FigureCallerModel", name := "bring", desc := "(II)V" } : Jvm.MethodName) prog_13_method_46_code (3 : Nat) (Option.none : Option Jvm.ClassFile.FieldType)) ∈ zWSL := zin_5 (List.mem_of_getElem? (i := 234) rfl) rfl
theorem zw_1254 : (Jvm.Cond.methodLink "FigureCallerLaw" (98 : Nat) ({ cls := "FigureCallerModel", name := "home", desc := "()I" } : Jvm.MethodName)) ∈ zWSL := zin_5 (List.mem_of_getElem? (i := 235) rfl) rfl
theorem zw_1255 : (Jvm.Cond.instanceMethod ({ cls := "FigureCallerModel", name := "home", desc := "()I" } : Jvm.MethodName)) ∈ zWSL := zin_5 (List.mem_of_getElem? (i := 236) rfl) rfl
theorem zw_1256 : (Jvm.Cond.selects "FigureCallerModel" ({ cls := "FigureCallerModel", name := "home", desc := "()I" } : Jvm.MethodName) ({ cls := "FigureCallerModel", name := "home", desc := "()I" } : Jvm.MethodName)) ∈ zWSL := zin_5 (List.mem_of_getElem? (i := 237) rfl) rfl
theorem zw_1257 : (Jvm.Cond.code ({ cls := "FigureCallerModel", name := "home", desc := "()I" } : Jvm.MethodName) prog_13_method_48_code (3 : Nat) (Option.some Jvm.ClassFile.FieldType.int)) ∈ zWSL := zin_5 (List.mem_of_getElem? (i := 238) rfl) rfl
theorem zw_1258 : (Jvm.Cond.methodLink "FigureCallerLaw" (102 : Nat) ({ cls := "FigureCallerModel", name := "where", desc := "(II)I" } : Jvm.MethodName)) ∈ zWSL := zin_5 (List.mem_of_getElem? (i := 239) rfl) rfl
theorem zw_1259 : (Jvm.Cond.instanceMethod ({ cls := "FigureCallerModel", name := "where", desc := "(II)I" } : Jvm.MethodName)) ∈ zWSL := zin_6 (List.mem_of_getElem? (i := 0) rfl) rfl
theorem zw_1260 : (Jvm.Cond.selects "FigureCallerModel" ({ cls := "FigureCallerModel", name := "where", desc := "(II)I" } : Jvm.MethodName) ({ cls := "FigureCallerModel", name := "where", desc := "(II)I" } : Jvm.MethodName)) ∈ zWSL := zin_6 (List.mem_of_getElem? (i := 1) rfl) rfl
theorem zw_1261 : (Jvm.Cond.code ({ cls := "FigureCallerModel", name := "where", desc := "(II)I" } : Jvm.MethodName) prog_13_method_50_code (3 : Nat) (Option.some Jvm.ClassFile.FieldType.int)) ∈ zWSL := zin_6 (List.mem_of_getElem? (i := 2) rfl) rfl
theorem zw_1262 : (Jvm.Cond.methodLink "FigureCallerModel" (308 : Nat) ({ cls := "FigureCallerModel", name := "isDancer", desc := "(I)Z" } : Jvm.MethodName)) ∈ zWSL := zin_6 (List.mem_of_getElem? (i := 3) rfl) rfl
theorem zw_1263 : (Jvm.Cond.static ({ cls := "FigureCallerModel", name := "isDancer", desc := "(I)Z" } : Jvm.MethodName)) ∈ zWSL := zin_6 (List.mem_of_getElem? (i := 4) rfl) rfl
theorem zw_1264 : (Jvm.Cond.code ({ cls := "FigureCallerModel", name := "isDancer", desc := "(I)Z" } : Jvm.MethodName) prog_13_method_49_code (1 : Nat) (Option.some Jvm.ClassFile.FieldType.boolean)) ∈ zWSL := zin_6 (List.mem_of_getElem? (i := 5) rfl) rfl
theorem zw_1265 : (Jvm.Cond.methodLink "FigureCallerLaw" (105 : Nat) ({ cls := "FigureCallerModel", name := "stood", desc := "(II)I" } : Jvm.MethodName)) ∈ zWSL := zin_6 (List.mem_of_getElem? (i := 6) rfl) rfl
theorem zw_1266 : (Jvm.Cond.instanceMethod ({ cls := "FigureCallerModel", name := "stood", desc := "(II)I" } : Jvm.MethodName)) ∈ zWSL := zin_6 (List.mem_of_getElem? (i := 7) rfl) rfl
theorem zw_1267 : (Jvm.Cond.selects "FigureCallerModel" ({ cls := "FigureCallerModel", name := "stood", desc := "(II)I" } : Jvm.MethodName) ({ cls := "FigureCallerModel", name := "stood", desc := "(II)I" } : Jvm.MethodName)) ∈ zWSL := zin_6 (List.mem_of_getElem? (i := 8) rfl) rfl
theorem zw_1268 : (Jvm.Cond.code ({ cls := "FigureCallerModel", name := "stood", desc := "(II)I" } : Jvm.MethodName) prog_13_method_51_code (4 : Nat) (Option.some Jvm.ClassFile.FieldType.int)) ∈ zWSL := zin_6 (List.mem_of_getElem? (i := 9) rfl) rfl
theorem zw_1269 : (Jvm.Cond.methodLink "FigureCallerLaw" (108 : Nat) ({ cls := "FigureCallerModel", name := "select", desc := "(II)Z" } : Jvm.MethodName)) ∈ zWSL := zin_6 (List.mem_of_getElem? (i := 10) rfl) rfl
theorem zw_1270 : (Jvm.Cond.instanceMethod ({ cls := "FigureCallerModel", name := "select", desc := "(II)Z" } : Jvm.MethodName)) ∈ zWSL := zin_6 (List.mem_of_getElem? (i := 11) rfl) rfl
theorem zw_1271 : (Jvm.Cond.selects "FigureCallerModel" ({ cls := "FigureCallerModel", name := "select", desc := "(II)Z" } : Jvm.MethodName) ({ cls := "FigureCallerModel", name := "select", desc := "(II)Z" } : Jvm.MethodName)) ∈ zWSL := zin_6 (List.mem_of_getElem? (i := 12) rfl) rfl
theorem zw_1272 : (Jvm.Cond.code ({ cls := "FigureCallerModel", name := "select", desc := "(II)Z" } : Jvm.MethodName) prog_13_method_52_code (3 : Nat) (Option.some Jvm.ClassFile.FieldType.boolean)) ∈ zWSL := zin_6 (List.mem_of_getElem? (i := 13) rfl) rfl
theorem zw_1273 : (Jvm.Cond.methodLink "FigureCallerLaw" (112 : Nat) ({ cls := "FigureCallerModel", name := "shape", desc := "()I" } : Jvm.MethodName)) ∈ zWSL := zin_6 (List.mem_of_getElem? (i := 14) rfl) rfl
theorem zw_1274 : (Jvm.Cond.instanceMethod ({ cls := "FigureCallerModel", name := "shape", desc := "()I" } : Jvm.MethodName)) ∈ zWSL := zin_6 (List.mem_of_getElem? (i := 15) rfl) rfl
theorem zw_1275 : (Jvm.Cond.selects "FigureCallerModel" ({ cls := "FigureCallerModel", name := "shape", desc := "()I" } : Jvm.MethodName) ({ cls := "FigureCallerModel", name := "shape", desc := "()I" } : Jvm.MethodName)) ∈ zWSL := zin_6 (List.mem_of_getElem? (i := 16) rfl) rfl
theorem zw_1276 : (Jvm.Cond.code ({ cls := "FigureCallerModel", name := "shape", desc := "()I" } : Jvm.MethodName) prog_13_method_53_code (11 : Nat) (Option.some Jvm.ClassFile.FieldType.int)) ∈ zWSL := zin_6 (List.mem_of_getElem? (i := 17) rfl) rfl
theorem zw_1277 : (Jvm.Cond.methodLink "FigureCallerLaw" (116 : Nat) ({ cls := "FigureCallerModel", name := "allow", desc := "(IZ)V" } : Jvm.MethodName)) ∈ zWSL := zin_6 (List.mem_of_getElem? (i := 18) rfl) rfl
theorem zw_1278 : (Jvm.Cond.instanceMethod ({ cls := "FigureCallerModel", name := "allow", desc := "(IZ)V" } : Jvm.MethodName)) ∈ zWSL := zin_6 (List.mem_of_getElem? (i := 19) rfl) rfl
theorem zw_1279 : (Jvm.Cond.selects "FigureCallerModel" ({ cls := "FigureCallerModel", name := "allow", desc := "(IZ)V" } : Jvm.MethodName) ({ cls := "FigureCallerModel", name := "allow", desc := "(IZ)V" } : Jvm.MethodName)) ∈ zWSL := zin_6 (List.mem_of_getElem? (i := 20) rfl) rfl
theorem zw_1280 : (Jvm.Cond.code ({ cls := "FigureCallerModel", name := "allow", desc := "(IZ)V" } : Jvm.MethodName) prog_13_method_54_code (5 : Nat) (Option.none : Option Jvm.ClassFile.FieldType)) ∈ zWSL := zin_6 (List.mem_of_getElem? (i := 21) rfl) rfl
theorem zw_1281 : (Jvm.Cond.methodLink "FigureCallerLaw" (120 : Nat) ({ cls := "FigureCallerModel", name := "resolve", desc := "()I" } : Jvm.MethodName)) ∈ zWSL := zin_6 (List.mem_of_getElem? (i := 22) rfl) rfl
theorem zw_1282 : (Jvm.Cond.instanceMethod ({ cls := "FigureCallerModel", name := "resolve", desc := "()I" } : Jvm.MethodName)) ∈ zWSL := zin_6 (List.mem_of_getElem? (i := 23) rfl) rfl
theorem zw_1283 : (Jvm.Cond.selects "FigureCallerModel" ({ cls := "FigureCallerModel", name := "resolve", desc := "()I" } : Jvm.MethodName) ({ cls := "FigureCallerModel", name := "resolve", desc := "()I" } : Jvm.MethodName)) ∈ zWSL := zin_6 (List.mem_of_getElem? (i := 24) rfl) rfl
theorem zw_1284 : (Jvm.Cond.code ({ cls := "FigureCallerModel", name := "resolve", desc := "()I" } : Jvm.MethodName) prog_13_method_59_code (2 : Nat) (Option.some Jvm.ClassFile.FieldType.int)) ∈ zWSL := zin_6 (List.mem_of_getElem? (i := 25) rfl) rfl
theorem zw_1285 : (Jvm.Cond.methodLink "FigureCallerModel" (314 : Nat) ({ cls := "FigureCallerModel", name := "isHome", desc := "(I)Z" } : Jvm.MethodName)) ∈ zWSL := zin_6 (List.mem_of_getElem? (i := 26) rfl) rfl
theorem zw_1287 : (Jvm.Cond.instanceMethod ({ cls := "FigureCallerModel", name := "isHome", desc := "(I)Z" } : Jvm.MethodName)) ∈ zWSL := zin_6 (List.mem_of_getElem? (i := 28) rfl) rfl
theorem zw_1288 : (Jvm.Cond.code ({ cls := "FigureCallerModel", name := "isHome", desc := "(I)Z" } : Jvm.MethodName) prog_13_method_56_code (4 : Nat) (Option.some Jvm.ClassFile.FieldType.boolean)) ∈ zWSL := zin_6 (List.mem_of_getElem? (i := 29) rfl) rfl
theorem zw_1289 : (Jvm.Cond.methodLink "FigureCallerModel" (320 : Nat) ({ cls := "FigureCallerModel", name := "search", desc := "(I)Z" } : Jvm.MethodName)) ∈ zWSL := zin_6 (List.mem_of_getElem? (i := 30) rfl) rfl
theorem zw_1291 : (Jvm.Cond.instanceMethod ({ cls := "FigureCallerModel", name := "search", desc := "(I)Z" } : Jvm.MethodName)) ∈ zWSL := zin_6 (List.mem_of_getElem? (i := 32) rfl) rfl
theorem zw_1292 : (Jvm.Cond.code ({ cls := "FigureCallerModel", name := "search", desc := "(I)Z" } : Jvm.MethodName) prog_13_method_58_code (3 : Nat) (Option.some Jvm.ClassFile.FieldType.boolean)) ∈ zWSL := zin_6 (List.mem_of_getElem? (i := 33) rfl) rfl
theorem zw_1293 : (Jvm.Cond.methodLink "FigureCallerModel" (311 : Nat) ({ cls := "FigureCallerModel", name := "from", desc := "(I)I" } : Jvm.MethodName)) ∈ zWSL := zin_6 (List.mem_of_getElem? (i := 34) rfl) rfl
theorem zw_1295 : (Jvm.Cond.instanceMethod ({ cls := "FigureCallerModel", name := "from", desc := "(I)I" } : Jvm.MethodName)) ∈ zWSL := zin_6 (List.mem_of_getElem? (i := 36) rfl) rfl
theorem zw_1296 : (Jvm.Cond.code ({ cls := "FigureCallerModel", name := "from", desc := "(I)I" } : Jvm.MethodName) prog_13_method_55_code (4 : Nat) (Option.some Jvm.ClassFile.FieldType.int)) ∈ zWSL := zin_6 (List.mem_of_getElem? (i := 37) rfl) rfl
theorem zw_1297 : (Jvm.Cond.methodLink "FigureCallerModel" (317 : Nat) ({ cls := "FigureCallerModel", name := "tries", desc := "(I)Z" } : Jvm.MethodName)) ∈ zWSL := zin_6 (List.mem_of_getElem? (i := 38) rfl) rfl
theorem zw_1299 : (Jvm.Cond.instanceMethod ({ cls := "FigureCallerModel", name := "tries", desc := "(I)Z" } : Jvm.MethodName)) ∈ zWSL := zin_6 (List.mem_of_getElem? (i := 40) rfl) rfl
theorem zw_1300 : (Jvm.Cond.code ({ cls := "FigureCallerModel", name := "tries", desc := "(I)Z" } : Jvm.MethodName) prog_13_method_57_code (5 : Nat) (Option.some Jvm.ClassFile.FieldType.boolean)) ∈ zWSL := zin_6 (List.mem_of_getElem? (i := 41) rfl) rfl
theorem zw_1301 : (Jvm.Cond.methodLink "FigureCallerLaw" (123 : Nat) ({ cls := "FigureCallerModel", name := "way", desc := "(I)I" } : Jvm.MethodName)) ∈ zWSL := zin_6 (List.mem_of_getElem? (i := 42) rfl) rfl
theorem zw_1302 : (Jvm.Cond.instanceMethod ({ cls := "FigureCallerModel", name := "way", desc := "(I)I" } : Jvm.MethodName)) ∈ zWSL := zin_6 (List.mem_of_getElem? (i := 43) rfl) rfl
theorem zw_1303 : (Jvm.Cond.selects "FigureCallerModel" ({ cls := "FigureCallerModel", name := "way", desc := "(I)I" } : Jvm.MethodName) ({ cls := "FigureCallerModel", name := "way", desc := "(I)I" } : Jvm.MethodName)) ∈ zWSL := zin_6 (List.mem_of_getElem? (i := 44) rfl) rfl
theorem zw_1304 : (Jvm.Cond.code ({ cls := "FigureCallerModel", name := "way", desc := "(I)I" } : Jvm.MethodName) prog_13_method_60_code (2 : Nat) (Option.some Jvm.ClassFile.FieldType.int)) ∈ zWSL := zin_6 (List.mem_of_getElem? (i := 45) rfl) rfl
theorem zw_1305 : (Jvm.Cond.methodLink "FigureCallerLaw" (126 : Nat) ({ cls := "FigureCallerModel", name := "same", desc := "(II)Z" } : Jvm.MethodName)) ∈ zWSL := zin_6 (List.mem_of_getElem? (i := 46) rfl) rfl
theorem zw_1306 : (Jvm.Cond.instanceMethod ({ cls := "FigureCallerModel", name := "same", desc := "(II)Z" } : Jvm.MethodName)) ∈ zWSL := zin_6 (List.mem_of_getElem? (i := 47) rfl) rfl
theorem zw_1307 : (Jvm.Cond.selects "FigureCallerModel" ({ cls := "FigureCallerModel", name := "same", desc := "(II)Z" } : Jvm.MethodName) ({ cls := "FigureCallerModel", name := "same", desc := "(II)Z" } : Jvm.MethodName)) ∈ zWSL := zin_6 (List.mem_of_getElem? (i := 48) rfl) rfl
theorem zw_1308 : (Jvm.Cond.code ({ cls := "FigureCallerModel", name := "same", desc := "(II)Z" } : Jvm.MethodName) prog_13_method_62_code (9 : Nat) (Option.some Jvm.ClassFile.FieldType.boolean)) ∈ zWSL := zin_6 (List.mem_of_getElem? (i := 49) rfl) rfl
theorem zw_1309 : (Jvm.Cond.methodLink "FigureCallerModel" (323 : Nat) ({ cls := "FigureCallerModel", name := "turned", desc := "(I)V" } : Jvm.MethodName)) ∈ zWSL := zin_6 (List.mem_of_getElem? (i := 50) rfl) rfl
theorem zw_1311 : (Jvm.Cond.instanceMethod ({ cls := "FigureCallerModel", name := "turned", desc := "(I)V" } : Jvm.MethodName)) ∈ zWSL := zin_6 (List.mem_of_getElem? (i := 52) rfl) rfl
theorem zw_1312 : (Jvm.Cond.code ({ cls := "FigureCallerModel", name := "turned", desc := "(I)V" } : Jvm.MethodName) prog_13_method_61_code (3 : Nat) (Option.none : Option Jvm.ClassFile.FieldType)) ∈ zWSL := zin_6 (List.mem_of_getElem? (i := 53) rfl) rfl
theorem zw_1313 : (Jvm.Cond.constantLong "FigureCallerLaw" (57 : Nat) (4294967295 : Int64)) ∈ zWSL := zin_6 (List.mem_of_getElem? (i := 54) rfl) rfl
theorem zw_1315 : (Jvm.Cond.fieldLink "java/lang/String" (9 : Nat) "java/lang/String" "value" "[B") ∈ zWSL := zin_6 (List.mem_of_getElem? (i := 56) rfl) rfl
theorem zw_1316 : (Jvm.Cond.fieldLink "java/lang/String" (15 : Nat) "java/lang/String" "coder" "B") ∈ zWSL := zin_6 (List.mem_of_getElem? (i := 57) rfl) rfl
end
