section ZR2
variable {m : Nat → Nat → Int32} {W : Nat → Int32} {p b t : Nat} {c : Int32}
theorem u12 {k : Nat} {x : Int32} (hk : 12 ≠ k) (h : W 12 = c) : upd W k x 12 = c := (upd_ne _ _ hk).trans h
end ZR2
