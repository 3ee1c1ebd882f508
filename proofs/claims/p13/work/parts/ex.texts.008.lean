section ZR0
variable {m : Nat → Nat → Int32} {W : Nat → Int32} {p b t : Nat} {c : Int32}
theorem rclears_10 : ∀ (n k : Nat) (W : Nat → Int32), W 10 = c → R10 c (l_rclears m p b t n k W) := by
  intro n
  induction n with
  | zero => intro k W h; rw [l_rclears]; unfold q_thread37; exact deeds_10 _ _ _ _ _ (u10 (by omega) h)
  | succ n ih => intro k W h; rw [l_rclears]; exact ih _ _ (u10 (by omega) h)
end ZR0
