section ZR2
variable {m : Nat → Nat → Int32} {W : Nat → Int32} {p b t : Nat} {c : Int32}
theorem R12.eta {X : Int32 × (Nat → Int32) × Nat × Nat} (h : R12 c X) : R12 c (X.1, X.2.1, X.2.2.1, X.2.2.2) := h
end ZR2
