def dz (b : ByteArray) (pc : Nat) (i : Instr) (n q : Nat) : Prop := decode b pc = .ok (i, n) ∧ pc + n = q
