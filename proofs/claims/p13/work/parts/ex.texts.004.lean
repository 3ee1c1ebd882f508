section ZR0
variable {m : Nat → Nat → Int32} {W : Nat → Int32} {p b t : Nat} {c : Int32}
theorem u10 {k : Nat} {x : Int32} (hk : 10 ≠ k) (h : W 10 = c) : upd W k x 10 = c := (upd_ne _ _ hk).trans h
end ZR0
