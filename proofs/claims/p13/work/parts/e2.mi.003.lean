section ZR2
variable {m : Nat → Nat → Int32} {W : Nat → Int32} {p b t : Nat} {c : Int32}
theorem R12.m2 {X : Int32 × (Nat → Int32) × Nat × Nat} {v : Int32} (h : R12 c X) : R12 c (v, X.2.1, p, b) := h
end ZR2
