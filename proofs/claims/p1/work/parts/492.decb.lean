def rf_decb (cc : ByteArray) (dec : List (Nat × Instr × Nat)) : Bool := dec.all (fun q => decide (decode cc q.1 = .ok (q.2.1, q.2.2)))
theorem rf_decs_of {cc : ByteArray} {dec : List (Nat × Instr × Nat)} (h : rf_decb cc dec = true) : rf_decs cc dec := fun q hq => by
  have := List.all_eq_true.mp h q hq
  simpa using this
