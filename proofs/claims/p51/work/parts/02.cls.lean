def RX0 : String := "RunFaxes$Coder"
def TX0 : u_T := fun k => match k with
  | 0 => ("RunFaxes$Coder", "kernel", "[I", true)
  | 1 => ("RunFaxes$Coder", "kernelLength", "I", false)
  | 2 => ("RunFaxes$Coder", "code", "[I", true)
  | 3 => ("RunFaxes$Coder", "length", "I", false)
  | _ => ("RunFaxes$Coder", "check", "I", false)
def tyX0 : Nat → FieldType := fun k => match k with
  | 0 => .array .int
  | 1 => .int
  | 2 => .array .int
  | 3 => .int
  | _ => .int
theorem nmX0 : ∀ a, a < 5 → ∀ b, b < 5 → a ≠ b → (TX0 a).2.1 ≠ (TX0 b).2.1 := by decide +kernel
theorem tyX0_ok : ∀ k, k < 5 → parseFieldDescriptor (TX0 k).2.2.1 = some (tyX0 k) := by decide +kernel
def RX1 : String := "RunFaxes$History"
def TX1 : u_T := fun k => match k with
  | 0 => ("RunFaxes$History", "count", "I", false)
  | 1 => ("RunFaxes$History", "oldest", "I", false)
  | _ => ("RunFaxes$History", "ring", "[LRunFaxes$State;", true)
def tyX1 : Nat → FieldType := fun k => match k with
  | 0 => .int
  | 1 => .int
  | _ => .array (.object "RunFaxes$State")
theorem nmX1 : ∀ a, a < 3 → ∀ b, b < 3 → a ≠ b → (TX1 a).2.1 ≠ (TX1 b).2.1 := by decide +kernel
theorem tyX1_ok : ∀ k, k < 3 → parseFieldDescriptor (TX1 k).2.2.1 = some (tyX1 k) := by decide +kernel
def RX2 : String := "RunFaxes$Page"
def TX2 : u_T := fun k => match k with
  | 0 => ("RunFaxes$Page", "width", "I", false)
  | 1 => ("RunFaxes$Page", "style", "I", false)
  | 2 => ("RunFaxes$Page", "count", "I", false)
  | _ => ("RunFaxes$Page", "rows", "[J", true)
def tyX2 : Nat → FieldType := fun k => match k with
  | 0 => .int
  | 1 => .int
  | 2 => .int
  | _ => .array .long
theorem nmX2 : ∀ a, a < 4 → ∀ b, b < 4 → a ≠ b → (TX2 a).2.1 ≠ (TX2 b).2.1 := by decide +kernel
theorem tyX2_ok : ∀ k, k < 4 → parseFieldDescriptor (TX2 k).2.2.1 = some (tyX2 k) := by decide +kernel
def RX3 : String := "RunFaxes$PageText"
def TX3 : u_T := fun k => match k with
  | 0 => ("RunFaxes$PageText", "codes", "[I", true)
  | 1 => ("RunFaxes$PageText", "length", "I", false)
  | _ => ("RunFaxes$PageText", "scanner", "LRunFaxes$PartScanner;", true)
def tyX3 : Nat → FieldType := fun k => match k with
  | 0 => .array .int
  | 1 => .int
  | _ => .object "RunFaxes$PartScanner"
theorem nmX3 : ∀ a, a < 3 → ∀ b, b < 3 → a ≠ b → (TX3 a).2.1 ≠ (TX3 b).2.1 := by decide +kernel
theorem tyX3_ok : ∀ k, k < 3 → parseFieldDescriptor (TX3 k).2.2.1 = some (tyX3 k) := by decide +kernel
def RX4 : String := "RunFaxes$PartScanner"
def TX4 : u_T := fun k => match k with
  | 0 => ("RunFaxes$PartScanner", "phase", "I", false)
  | 1 => ("RunFaxes$PartScanner", "kind", "I", false)
  | 2 => ("RunFaxes$PartScanner", "pixelCount", "I", false)
  | 3 => ("RunFaxes$PartScanner", "pixels", "J", false)
  | 4 => ("RunFaxes$PartScanner", "digits", "I", false)
  | 5 => ("RunFaxes$PartScanner", "place", "I", false)
  | _ => ("RunFaxes$PartScanner", "number", "I", false)
def tyX4 : Nat → FieldType := fun k => match k with
  | 0 => .int
  | 1 => .int
  | 2 => .int
  | 3 => .long
  | 4 => .int
  | 5 => .int
  | _ => .int
theorem nmX4 : ∀ a, a < 7 → ∀ b, b < 7 → a ≠ b → (TX4 a).2.1 ≠ (TX4 b).2.1 := by decide +kernel
theorem tyX4_ok : ∀ k, k < 7 → parseFieldDescriptor (TX4 k).2.2.1 = some (tyX4 k) := by decide +kernel
def RX5 : String := "RunFaxes$Reader"
def TX5 : u_T := fun k => match k with
  | 0 => ("RunFaxes$Reader", "place", "I", false)
  | 1 => ("RunFaxes$Reader", "sum", "I", false)
  | _ => ("RunFaxes$Reader", "reason", "I", false)
def tyX5 : Nat → FieldType := fun k => match k with
  | 0 => .int
  | 1 => .int
  | _ => .int
theorem nmX5 : ∀ a, a < 3 → ∀ b, b < 3 → a ≠ b → (TX5 a).2.1 ≠ (TX5 b).2.1 := by decide +kernel
theorem tyX5_ok : ∀ k, k < 3 → parseFieldDescriptor (TX5 k).2.2.1 = some (tyX5 k) := by decide +kernel
def RX6 : String := "RunFaxes$Reception"
def TX6 : u_T := fun k => match k with
  | 0 => ("RunFaxes$Reception", "lineBits", "I", false)
  | 1 => ("RunFaxes$Reception", "rows", "[J", true)
  | 2 => ("RunFaxes$Reception", "errorCount", "I", false)
  | 3 => ("RunFaxes$Reception", "places", "[I", true)
  | _ => ("RunFaxes$Reception", "reasons", "[I", true)
def tyX6 : Nat → FieldType := fun k => match k with
  | 0 => .int
  | 1 => .array .long
  | 2 => .int
  | 3 => .array .int
  | _ => .array .int
theorem nmX6 : ∀ a, a < 5 → ∀ b, b < 5 → a ≠ b → (TX6 a).2.1 ≠ (TX6 b).2.1 := by decide +kernel
theorem tyX6_ok : ∀ k, k < 5 → parseFieldDescriptor (TX6 k).2.2.1 = some (tyX6 k) := by decide +kernel
def RX7 : String := "RunFaxes$State"
def TX7 : u_T := fun k => match k with
  | 0 => ("RunFaxes$State", "page", "LRunFaxes$Page;", true)
  | 1 => ("RunFaxes$State", "stream", "LRunFaxes$Stream;", true)
  | 2 => ("RunFaxes$State", "reception", "LRunFaxes$Reception;", true)
  | 3 => ("RunFaxes$State", "stopped", "Z", false)
  | _ => ("RunFaxes$State", "stoppedPart", "I", false)
def tyX7 : Nat → FieldType := fun k => match k with
  | 0 => .object "RunFaxes$Page"
  | 1 => .object "RunFaxes$Stream"
  | 2 => .object "RunFaxes$Reception"
  | 3 => .boolean
  | _ => .int
theorem nmX7 : ∀ a, a < 5 → ∀ b, b < 5 → a ≠ b → (TX7 a).2.1 ≠ (TX7 b).2.1 := by decide +kernel
theorem tyX7_ok : ∀ k, k < 5 → parseFieldDescriptor (TX7 k).2.2.1 = some (tyX7 k) := by decide +kernel
def RX8 : String := "RunFaxes$Stream"
def TX8 : u_T := fun k => match k with
  | 0 => ("RunFaxes$Stream", "length", "I", false)
  | _ => ("RunFaxes$Stream", "numbers", "[I", true)
def tyX8 : Nat → FieldType := fun k => match k with
  | 0 => .int
  | _ => .array .int
theorem nmX8 : ∀ a, a < 2 → ∀ b, b < 2 → a ≠ b → (TX8 a).2.1 ≠ (TX8 b).2.1 := by decide +kernel
theorem tyX8_ok : ∀ k, k < 2 → parseFieldDescriptor (TX8 k).2.2.1 = some (tyX8 k) := by decide +kernel
def RX9 : String := "RunFaxes"
def TX9 : u_T := fun k => match k with
  | 0 => ("RunFaxes", "now", "LRunFaxes$State;", true)
  | 1 => ("RunFaxes", "snapshot", "LRunFaxes$State;", true)
  | 2 => ("RunFaxes", "hasSnapshot", "Z", false)
  | 3 => ("RunFaxes", "history", "LRunFaxes$History;", true)
  | 4 => ("RunFaxes", "buffer", "LRunFaxes$PageText;", true)
  | 5 => ("RunFaxes", "coder", "LRunFaxes$Coder;", true)
  | 6 => ("RunFaxes", "reader", "LRunFaxes$Reader;", true)
  | _ => ("RunFaxes", "trial", "LRunFaxes$Reception;", true)
def tyX9 : Nat → FieldType := fun k => match k with
  | 0 => .object "RunFaxes$State"
  | 1 => .object "RunFaxes$State"
  | 2 => .boolean
  | 3 => .object "RunFaxes$History"
  | 4 => .object "RunFaxes$PageText"
  | 5 => .object "RunFaxes$Coder"
  | 6 => .object "RunFaxes$Reader"
  | _ => .object "RunFaxes$Reception"
theorem nmX9 : ∀ a, a < 8 → ∀ b, b < 8 → a ≠ b → (TX9 a).2.1 ≠ (TX9 b).2.1 := by decide +kernel
theorem tyX9_ok : ∀ k, k < 8 → parseFieldDescriptor (TX9 k).2.2.1 = some (tyX9 k) := by decide +kernel
def RX10 : String := "RunFaxesModel"
def TX10 : u_T := fun k => match k with
  | _ => ("", "", "", false)
def tyX10 : Nat → FieldType := fun k => match k with
  | _ => .int
theorem nmX10 : ∀ a, a < 0 → ∀ b, b < 0 → a ≠ b → (TX10 a).2.1 ≠ (TX10 b).2.1 := by decide +kernel
theorem tyX10_ok : ∀ k, k < 0 → parseFieldDescriptor (TX10 k).2.2.1 = some (tyX10 k) := by decide +kernel
abbrev vwCl : List vw_C := [(RX0, TX0, 5), (RX1, TX1, 3), (RX2, TX2, 4), (RX3, TX3, 3), (RX4, TX4, 7), (RX5, TX5, 3), (RX6, TX6, 5), (RX7, TX7, 5), (RX8, TX8, 2), (RX9, TX9, 8)]
