section ZMK
variable {m m' : Nat → Nat → Int32} {W W' : Nat → Int32}
theorem falls_12 {t y : Nat} (h : WG W) (ht : t < 4) (hy : y < 5) : q_falls W t y 12 = W 12 := falls_fr ht hy h.C (h.L t ht).2 (by omega) (by omega) (by omega) (fun c e => absurd e (by omega))
end ZMK
