/-! A SMALL STEP MACHINE OF OUR OWN: methods as blocks of resolved instructions (op, length, number, places); a heap of numbered objects. -/
abbrev mRI : Type := Nat × Nat × Int32 × List Nat
abbrev mBk : Type := Nat × List mRI
abbrev mMI : Type := String × MethodName × ByteArray × Nat × Option FieldType × Nat × List mBk
def mNo : mMI := ("", ⟨"", "", ""⟩, ⟨#[]⟩, 0, none, 9, [])
/-- slots made so far; the kind and length of each object; references, numbers, long numbers that stand in it -/
abbrev mMH : Type := Nat × List (Nat × Nat) × (Nat → Nat → Option Nat) × (Nat → Nat → Int32) × (Nat → Nat → Int64)
abbrev mL : Type := List (Option Value)
