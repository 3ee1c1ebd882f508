section ZR0
variable {m : Nat → Nat → Int32} {W : Nat → Int32} {p b t : Nat} {c : Int32}
theorem R10.eta {X : Int32 × (Nat → Int32) × Nat × Nat} (h : R10 c X) : R10 c (X.1, X.2.1, X.2.2.1, X.2.2.2) := h
end ZR0
