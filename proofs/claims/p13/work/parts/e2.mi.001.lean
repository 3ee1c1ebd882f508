section ZR2
variable {m : Nat → Nat → Int32} {W : Nat → Int32} {p b t : Nat} {c : Int32}
theorem R12.mk {v : Int32} (h : W 12 = c) : R12 c (v, W, p, b) := h
end ZR2
