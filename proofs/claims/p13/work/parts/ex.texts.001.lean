section ZR0
variable {m : Nat → Nat → Int32} {W : Nat → Int32} {p b t : Nat} {c : Int32}
theorem R10.mk {v : Int32} (h : W 10 = c) : R10 c (v, W, p, b) := h
end ZR0
