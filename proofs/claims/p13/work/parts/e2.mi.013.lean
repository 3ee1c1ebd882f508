section ZR2
variable {m : Nat → Nat → Int32} {W : Nat → Int32} {p b t : Nat} {c : Int32}
theorem readTrustL_12 {v : Int32} : ∀ (n l : Nat) (W : Nat → Int32), W 12 = c → (l_readTrust v n l W).2 12 = c := by
  intro n
  induction n with
  | zero => intro l W h; rw [l_readTrust]; exact cndi (fun q : Int32 × (Nat → Int32) => q.2 12 = c) h h
  | succ n ih => intro l W h; rw [l_readTrust]; exact cndi (fun q : Int32 × (Nat → Int32) => q.2 12 = c) h (ih _ _ (u12 (by omega) h))
end ZR2
