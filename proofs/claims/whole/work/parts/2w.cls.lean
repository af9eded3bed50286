/-! THE CLASSES by program: their fields in order, what the tables say of them -/
def TF_Ca : u_T := fun k => match k with
  | 0 => ("FourCars$Cars", "floor", "[I", true)
  | 1 => ("FourCars$Cars", "way", "[I", true)
  | 2 => ("FourCars$Cars", "state", "[I", true)
  | 3 => ("FourCars$Cars", "left", "[I", true)
  | 4 => ("FourCars$Cars", "riding", "[I", true)
  | 5 => ("FourCars$Cars", "given", "[I", true)
  | 6 => ("FourCars$Cars", "home", "[I", true)
  | _ => ("FourCars$Cars", "out", "[Z", true)
def tyF_Ca : Nat → FieldType := fun k => match k with
  | 0 => .array .int
  | 1 => .array .int
  | 2 => .array .int
  | 3 => .array .int
  | 4 => .array .int
  | 5 => .array .int
  | 6 => .array .int
  | _ => .array .boolean
theorem nmF_Ca : ∀ a, a < 8 → ∀ b, b < 8 → a ≠ b → (TF_Ca a).2.1 ≠ (TF_Ca b).2.1 := by decide +kernel
theorem tokF_Ca : ∀ k, k < 8 → parseFieldDescriptor (TF_Ca k).2.2.1 = some (tyF_Ca k) := by decide +kernel
def TF_Ga : u_T := fun k => match k with
  | 0 => ("FourCars$Chain", "points", "[I", true)
  | 1 => ("FourCars$Chain", "weightBelow", "[I", true)
  | 2 => ("FourCars$Chain", "momentBelow", "[I", true)
  | 3 => ("FourCars$Chain", "least", "[I", true)
  | 4 => ("FourCars$Chain", "follower", "[I", true)
  | _ => ("FourCars$Chain", "floors", "I", false)
def tyF_Ga : Nat → FieldType := fun k => match k with
  | 0 => .array .int
  | 1 => .array .int
  | 2 => .array .int
  | 3 => .array .int
  | 4 => .array .int
  | _ => .int
theorem nmF_Ga : ∀ a, a < 6 → ∀ b, b < 6 → a ≠ b → (TF_Ga a).2.1 ≠ (TF_Ga b).2.1 := by decide +kernel
theorem tokF_Ga : ∀ k, k < 6 → parseFieldDescriptor (TF_Ga k).2.2.1 = some (tyF_Ga k) := by decide +kernel
def TF_Pa : u_T := fun k => match k with
  | 0 => ("FourCars$Chain", "points", "[I", true)
  | 1 => ("FourCars$Chain", "weightBelow", "[I", true)
  | 2 => ("FourCars$Chain", "momentBelow", "[I", true)
  | 3 => ("FourCars$Chain", "least", "[I", true)
  | 4 => ("FourCars$Chain", "follower", "[I", true)
  | 5 => ("FourCars$Chain", "floors", "I", false)
  | 6 => ("FourCars$Parts", "speed", "I", false)
  | _ => ("FourCars$Parts", "door", "I", false)
def tyF_Pa : Nat → FieldType := fun k => match k with
  | 0 => .array .int
  | 1 => .array .int
  | 2 => .array .int
  | 3 => .array .int
  | 4 => .array .int
  | 5 => .int
  | 6 => .int
  | _ => .int
theorem nmF_Pa : ∀ a, a < 8 → ∀ b, b < 8 → a ≠ b → (TF_Pa a).2.1 ≠ (TF_Pa b).2.1 := by decide +kernel
theorem tokF_Pa : ∀ k, k < 8 → parseFieldDescriptor (TF_Pa k).2.2.1 = some (tyF_Pa k) := by decide +kernel
def TF_Pe : u_T := fun k => match k with
  | 0 => ("FourCars$People", "count", "I", false)
  | 1 => ("FourCars$People", "coming", "I", false)
  | 2 => ("FourCars$People", "loose", "I", false)
  | 3 => ("FourCars$People", "there", "I", false)
  | 4 => ("FourCars$People", "second", "[I", true)
  | 5 => ("FourCars$People", "from", "[I", true)
  | 6 => ("FourCars$People", "to", "[I", true)
  | 7 => ("FourCars$People", "state", "[I", true)
  | 8 => ("FourCars$People", "by", "[I", true)
  | 9 => ("FourCars$People", "wait", "[I", true)
  | _ => ("FourCars$People", "ride", "[I", true)
def tyF_Pe : Nat → FieldType := fun k => match k with
  | 0 => .int
  | 1 => .int
  | 2 => .int
  | 3 => .int
  | 4 => .array .int
  | 5 => .array .int
  | 6 => .array .int
  | 7 => .array .int
  | 8 => .array .int
  | 9 => .array .int
  | _ => .array .int
theorem nmF_Pe : ∀ a, a < 11 → ∀ b, b < 11 → a ≠ b → (TF_Pe a).2.1 ≠ (TF_Pe b).2.1 := by decide +kernel
theorem tokF_Pe : ∀ k, k < 11 → parseFieldDescriptor (TF_Pe k).2.2.1 = some (tyF_Pe k) := by decide +kernel
def TF_Ru : u_T := fun k => match k with
  | 0 => ("FourCars$Rule", "lines", "I", false)
  | 1 => ("FourCars$Rule", "price", "I", false)
  | 2 => ("FourCars$Rule", "asksWaits", "Z", false)
  | 3 => ("FourCars$Rule", "size", "I", false)
  | 4 => ("FourCars$Rule", "starts", "[I", true)
  | 5 => ("FourCars$Rule", "middles", "[I", true)
  | 6 => ("FourCars$Rule", "code", "[I", true)
  | _ => ("FourCars$Rule", "stack", "[I", true)
def tyF_Ru : Nat → FieldType := fun k => match k with
  | 0 => .int
  | 1 => .int
  | 2 => .boolean
  | 3 => .int
  | 4 => .array .int
  | 5 => .array .int
  | 6 => .array .int
  | _ => .array .int
theorem nmF_Ru : ∀ a, a < 8 → ∀ b, b < 8 → a ≠ b → (TF_Ru a).2.1 ≠ (TF_Ru b).2.1 := by decide +kernel
theorem tokF_Ru : ∀ k, k < 8 → parseFieldDescriptor (TF_Ru k).2.2.1 = some (tyF_Ru k) := by decide +kernel
def TF_Sc : u_T := fun k => match k with
  | 0 => ("FourCars$Scene", "tower", "LFourCars$Tower;", true)
  | 1 => ("FourCars$Scene", "people", "LFourCars$People;", true)
  | 2 => ("FourCars$Scene", "cars", "LFourCars$Cars;", true)
  | 3 => ("FourCars$Scene", "facts", "[I", true)
  | 4 => ("FourCars$Scene", "now", "I", false)
  | 5 => ("FourCars$Scene", "funPerson", "I", false)
  | 6 => ("FourCars$Scene", "funFloor", "I", false)
  | 7 => ("FourCars$Scene", "funCar", "I", false)
  | _ => ("FourCars$Scene", "isStirred", "Z", false)
def tyF_Sc : Nat → FieldType := fun k => match k with
  | 0 => .object "FourCars$Tower"
  | 1 => .object "FourCars$People"
  | 2 => .object "FourCars$Cars"
  | 3 => .array .int
  | 4 => .int
  | 5 => .int
  | 6 => .int
  | 7 => .int
  | _ => .boolean
theorem nmF_Sc : ∀ a, a < 9 → ∀ b, b < 9 → a ≠ b → (TF_Sc a).2.1 ≠ (TF_Sc b).2.1 := by decide +kernel
theorem tokF_Sc : ∀ k, k < 9 → parseFieldDescriptor (TF_Sc k).2.2.1 = some (tyF_Sc k) := by decide +kernel
def TF_Tk : u_T := fun k => match k with
  | 0 => ("FourCars$Tokens", "kinds", "[I", true)
  | 1 => ("FourCars$Tokens", "values", "[I", true)
  | 2 => ("FourCars$Tokens", "starts", "[I", true)
  | 3 => ("FourCars$Tokens", "count", "I", false)
  | 4 => ("FourCars$Tokens", "at", "I", false)
  | 5 => ("FourCars$Tokens", "kind", "I", false)
  | 6 => ("FourCars$Tokens", "value", "I", false)
  | 7 => ("FourCars$Tokens", "faultKind", "I", false)
  | _ => ("FourCars$Tokens", "faultPlace", "I", false)
def tyF_Tk : Nat → FieldType := fun k => match k with
  | 0 => .array .int
  | 1 => .array .int
  | 2 => .array .int
  | 3 => .int
  | 4 => .int
  | 5 => .int
  | 6 => .int
  | 7 => .int
  | _ => .int
theorem nmF_Tk : ∀ a, a < 9 → ∀ b, b < 9 → a ≠ b → (TF_Tk a).2.1 ≠ (TF_Tk b).2.1 := by decide +kernel
theorem tokF_Tk : ∀ k, k < 9 → parseFieldDescriptor (TF_Tk k).2.2.1 = some (tyF_Tk k) := by decide +kernel
def TF_Tw : u_T := fun k => match k with
  | 0 => ("FourCars$Tower", "lines", "I", false)
  | 1 => ("FourCars$Tower", "floors", "I", false)
  | 2 => ("FourCars$Tower", "cars", "I", false)
  | 3 => ("FourCars$Tower", "room", "[I", true)
  | 4 => ("FourCars$Tower", "speed", "[I", true)
  | 5 => ("FourCars$Tower", "door", "[I", true)
  | 6 => ("FourCars$Tower", "load", "[I", true)
  | 7 => ("FourCars$Tower", "start", "[I", true)
  | _ => ("FourCars$Tower", "skips", "[Z", true)
def tyF_Tw : Nat → FieldType := fun k => match k with
  | 0 => .int
  | 1 => .int
  | 2 => .int
  | 3 => .array .int
  | 4 => .array .int
  | 5 => .array .int
  | 6 => .array .int
  | 7 => .array .int
  | _ => .array .boolean
theorem nmF_Tw : ∀ a, a < 9 → ∀ b, b < 9 → a ≠ b → (TF_Tw a).2.1 ≠ (TF_Tw b).2.1 := by decide +kernel
theorem tokF_Tw : ∀ k, k < 9 → parseFieldDescriptor (TF_Tw k).2.2.1 = some (tyF_Tw k) := by decide +kernel
def TF_Wo : u_T := fun k => match k with
  | 0 => ("FourCars$World", "tower", "LFourCars$Tower;", true)
  | 1 => ("FourCars$World", "rules", "[LFourCars$Rule;", true)
  | 2 => ("FourCars$World", "weights", "[I", true)
  | 3 => ("FourCars$World", "scene", "LFourCars$Scene;", true)
  | _ => ("FourCars$World", "inForce", "I", false)
def tyF_Wo : Nat → FieldType := fun k => match k with
  | 0 => .object "FourCars$Tower"
  | 1 => .array (.object "FourCars$Rule")
  | 2 => .array .int
  | 3 => .object "FourCars$Scene"
  | _ => .int
theorem nmF_Wo : ∀ a, a < 5 → ∀ b, b < 5 → a ≠ b → (TF_Wo a).2.1 ≠ (TF_Wo b).2.1 := by decide +kernel
theorem tokF_Wo : ∀ k, k < 5 → parseFieldDescriptor (TF_Wo k).2.2.1 = some (tyF_Wo k) := by decide +kernel
def TF_F : u_T := fun k => match k with
  | 0 => ("FourCars", "tape", "[B", true)
  | 1 => ("FourCars", "tapeLength", "I", false)
  | 2 => ("FourCars", "tokens", "LFourCars$Tokens;", true)
  | 3 => ("FourCars", "spareRule", "LFourCars$Rule;", true)
  | 4 => ("FourCars", "spareTower", "LFourCars$Tower;", true)
  | 5 => ("FourCars", "world", "LFourCars$World;", true)
  | 6 => ("FourCars", "kept", "LFourCars$World;", true)
  | 7 => ("FourCars", "isKept", "Z", false)
  | 8 => ("FourCars", "idea", "LFourCars$Scene;", true)
  | 9 => ("FourCars", "groupOver", "[I", true)
  | 10 => ("FourCars", "groupOf", "[I", true)
  | 11 => ("FourCars", "gaps", "LFourCars$Gaps;", true)
  | _ => ("FourCars", "parts", "LFourCars$Parts;", true)
def tyF_F : Nat → FieldType := fun k => match k with
  | 0 => .array .byte
  | 1 => .int
  | 2 => .object "FourCars$Tokens"
  | 3 => .object "FourCars$Rule"
  | 4 => .object "FourCars$Tower"
  | 5 => .object "FourCars$World"
  | 6 => .object "FourCars$World"
  | 7 => .boolean
  | 8 => .object "FourCars$Scene"
  | 9 => .array .int
  | 10 => .array .int
  | 11 => .object "FourCars$Gaps"
  | _ => .object "FourCars$Parts"
theorem nmF_F : ∀ a, a < 13 → ∀ b, b < 13 → a ≠ b → (TF_F a).2.1 ≠ (TF_F b).2.1 := by decide +kernel
theorem tokF_F : ∀ k, k < 13 → parseFieldDescriptor (TF_F k).2.2.1 = some (tyF_F k) := by decide +kernel
def TF_M : u_T := fun k => match k with
  | 0 => ("FourCarsModel", "w", "[I", true)
  | 1 => ("FourCarsModel", "kept", "[I", true)
  | 2 => ("FourCarsModel", "before", "[I", true)
  | 3 => ("FourCarsModel", "hasImage", "Z", false)
  | 4 => ("FourCarsModel", "freshLine", "[I", true)
  | 5 => ("FourCarsModel", "freshStep", "[I", true)
  | 6 => ("FourCarsModel", "freshCar", "[I", true)
  | 7 => ("FourCarsModel", "tape", "[I", true)
  | 8 => ("FourCarsModel", "pile", "[I", true)
  | 9 => ("FourCarsModel", "facts", "[I", true)
  | 10 => ("FourCarsModel", "freshSkip", "[Z", true)
  | 11 => ("FourCarsModel", "which", "I", false)
  | 12 => ("FourCarsModel", "lines", "I", false)
  | 13 => ("FourCarsModel", "steps", "I", false)
  | 14 => ("FourCarsModel", "freshFloors", "I", false)
  | 15 => ("FourCarsModel", "freshCars", "I", false)
  | 16 => ("FourCarsModel", "taped", "I", false)
  | 17 => ("FourCarsModel", "at", "I", false)
  | 18 => ("FourCarsModel", "token", "I", false)
  | 19 => ("FourCarsModel", "tokenAt", "I", false)
  | 20 => ("FourCarsModel", "value", "I", false)
  | 21 => ("FourCarsModel", "wrong", "I", false)
  | 22 => ("FourCarsModel", "wrongAt", "I", false)
  | 23 => ("FourCarsModel", "faultKind", "I", false)
  | 24 => ("FourCarsModel", "depth", "I", false)
  | 25 => ("FourCarsModel", "faultPlace", "I", false)
  | 26 => ("FourCarsModel", "costs", "I", false)
  | 27 => ("FourCarsModel", "tried", "[I", true)
  | 28 => ("FourCarsModel", "isTried", "Z", false)
  | 29 => ("FourCarsModel", "presser", "I", false)
  | 30 => ("FourCarsModel", "pressed", "I", false)
  | 31 => ("FourCarsModel", "needed", "I", false)
  | 32 => ("FourCarsModel", "bestTried", "[I", true)
  | 33 => ("FourCarsModel", "leastOver", "I", false)
  | 34 => ("FourCarsModel", "above", "[I", true)
  | 35 => ("FourCarsModel", "chosen", "[I", true)
  | 36 => ("FourCarsModel", "cuts", "[I", true)
  | 37 => ("FourCarsModel", "bestCuts", "[I", true)
  | _ => ("FourCarsModel", "leastZones", "I", false)
def tyF_M : Nat → FieldType := fun k => match k with
  | 0 => .array .int
  | 1 => .array .int
  | 2 => .array .int
  | 3 => .boolean
  | 4 => .array .int
  | 5 => .array .int
  | 6 => .array .int
  | 7 => .array .int
  | 8 => .array .int
  | 9 => .array .int
  | 10 => .array .boolean
  | 11 => .int
  | 12 => .int
  | 13 => .int
  | 14 => .int
  | 15 => .int
  | 16 => .int
  | 17 => .int
  | 18 => .int
  | 19 => .int
  | 20 => .int
  | 21 => .int
  | 22 => .int
  | 23 => .int
  | 24 => .int
  | 25 => .int
  | 26 => .int
  | 27 => .array .int
  | 28 => .boolean
  | 29 => .int
  | 30 => .int
  | 31 => .int
  | 32 => .array .int
  | 33 => .int
  | 34 => .array .int
  | 35 => .array .int
  | 36 => .array .int
  | 37 => .array .int
  | _ => .int
theorem nmF_M : ∀ a, a < 39 → ∀ b, b < 39 → a ≠ b → (TF_M a).2.1 ≠ (TF_M b).2.1 := by decide +kernel
theorem tokF_M : ∀ k, k < 39 → parseFieldDescriptor (TF_M k).2.2.1 = some (tyF_M k) := by decide +kernel
abbrev clsL : List vw_C := [("FourCars$Cars", TF_Ca, 8), ("FourCars$Gaps", TF_Ga, 6), ("FourCars$Parts", TF_Pa, 8), ("FourCars$People", TF_Pe, 11), ("FourCars$Rule", TF_Ru, 8), ("FourCars$Scene", TF_Sc, 9), ("FourCars$Tokens", TF_Tk, 9), ("FourCars$Tower", TF_Tw, 9), ("FourCars$World", TF_Wo, 5), ("FourCars", TF_F, 13), ("FourCarsModel", TF_M, 39)]
def STT : List (String × Nat × String) := [("FourCars$Tokens", 72, "cost never when or and not far same against load given idle up floor waits car floors skip "), ("FourCarsModel", 89, "floors"), ("FourCarsModel", 95, "car"), ("FourCarsModel", 97, "skip"), ("FourCarsModel", 99, "far"), ("FourCarsModel", 101, "same"), ("FourCarsModel", 103, "against"), ("FourCarsModel", 105, "load"), ("FourCarsModel", 107, "given"), ("FourCarsModel", 109, "idle"), ("FourCarsModel", 111, "up"), ("FourCarsModel", 113, "floor"), ("FourCarsModel", 115, "waits"), ("FourCarsModel", 123, "when"), ("FourCarsModel", 125, "or"), ("FourCarsModel", 127, "and"), ("FourCarsModel", 129, "not"), ("FourCarsModel", 131, "cost"), ("FourCarsModel", 133, "never")]
