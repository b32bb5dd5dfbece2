/-! ===== an evaluator of decoded instructions over numbered cells ===== -/
/-- a cell's shape: (0, class number, codes of its fields) or (kind of row, how long, []); a field's code: 0 an int, 1 a long, 2 null, r + 3 the cell r; cell 0 is the script, cell 1 the text of the own words -/
abbrev xSh : Type := Nat × Nat × List Nat
abbrev xMem : Type := List xSh × (Nat → Nat → Int32) × (Nat → Nat → Int64)
abbrev xLs : Type := List (Option Value)
/-- depth, method, place, locals, stack, memory -/
abbrev xSt : Type := Nat × Nat × Nat × xLs × List Value × xMem
abbrev xRes : Type := Option Value × xMem
/-- an instruction as decoded, its length, two numbers (a field's class and place, a callee and its arguments, a local, a target), a hint for its word in the tables, constants -/
abbrev xEnt : Type := Instr × Nat × Nat × Nat × Nat × Int32 × Int64
