section ZPG
variable {T : Nat → Int32} {e p b t L : Nat} {m mm : Nat → Nat → Int32} {W : Nat → Int32}
theorem thread_rx (h : PA T e mm) (hG : PG mm) (hp : p ≤ e) (hk : TLK m W) : TLP (y_readProgram T e m p b) (q_readThread mm W p b) := by
  have h4 := hk.2.W.N4
  have e9 : mv m 43 5 = nv W 9 := hk.1.n9
  unfold y_readProgram q_readThread
  rw [e9]
  by_cases h9 : nv W 9 = 4
  · rw [h9, show zc2 .lt (Int32.ofNat 4) (Int32.ofNat 4) = false from by decide, show zc2 .ne (Int32.ofNat 4) (Int32.ofNat 4) = false from by decide, cnF, cnF]
    exact Or.inl ⟨rfl, rfl, rfl⟩
  · rw [zclt (by omega) (by omega) (show nv W 9 < 4 by omega), tne_tt (by omega) (by omega) h9, cnT, cnT]
    exact rclears_rx h hG hp (by omega) rfl hk rfl 103 0 W (by omega) (fun _ _ => rfl) (fun c hc => absurd hc (Nat.not_lt_zero _))
end ZPG
