/-! AN ABSTRACT MACHINE: the part of the bytecode that the class and the reference are written in, over a memory of numbered cells. am_step is one instruction, am_run whole calls. That the machine itself does what am_run says is shown once, for every method, behind (04.sound). -/
/-- the memory: the cells' kinds (kind of object and fields, or 50 ints, 51 longs, 52 references and length), ints, longs, references -/
abbrev am_M : Type := List (Nat × Nat) × (Nat → Nat → Int32) × (Nat → Nat → Int64) × (Nat → Nat → Value)
/-- a frame: program counter, locals, stack, memory -/
abbrev am_C : Type := Nat × List Value × List Value × am_M
abbrev am_O : Type := Option (am_C ⊕ ((Nat × List Value × am_C) ⊕ (Option Value × am_M)))
/-- an instruction: pc, as decoded, next pc, whether a straight walk may pass it (0), what it means -/
abbrev am_I : Type := Nat × Instr × Nat × Nat × List Nat × List (Int32 × Nat)
