/-- an instruction of the pure machine: its place, itself, its length, and what its operand stands for -/
abbrev pOp : Type := Nat × Instr × Nat × Nat × Nat × Int
/-- a method: its name, bytes, locals, type, instructions -/
abbrev pM : Type := MethodName × ByteArray × Nat × Option FieldType × List pOp
/-- arrays from before the run: the script, the static tables -/
abbrev pX : Type := Nat → Option (Nat × (Nat → Int32))
