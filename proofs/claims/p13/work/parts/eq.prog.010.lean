section ZPG
variable {T : Nat → Int32} {e p b t L : Nat} {m mm : Nat → Nat → Int32} {W : Nat → Int32}
theorem rclears_rx {W0 : Nat → Int32} {M : Nat → Nat → Int32} (h : PA T e mm) (hG : PG mm) (hp : p ≤ e) (ht : t < 4) (ht9 : nv W0 9 = t) (hk : TLK m W0) (eM : M = zm2 (x_clear m 43 t) 43 5 (Int32.ofNat (t + 1))) : ∀ (n k : Nat) (W : Nat → Int32), k + n = 103 → (∀ c, c < 376 + 103 * t ∨ 376 + 103 * t + 103 ≤ c → W c = W0 c) → (∀ c, c < k → W (376 + 103 * t + c) = Int32.ofNat 0) → TLP (yl_prog T e t 24 0 M p b) (l_rclears mm p b t n k W) := by
  intro n
  induction n with
  | zero =>
    intro k W hkn e0 hz
    have hz0 : ∀ c, c < 103 → upd W 9 (Int32.ofNat (t + 1)) (376 + 103 * t + c) = Int32.ofNat 0 := fun c hc => by rw [upd_ne _ _ (by omega)]; exact hz c (by omega)
    have e1 : ∀ c, c < 376 + 103 * t ∨ 376 + 103 * t + 103 ≤ c → c ≠ 9 → upd W 9 (Int32.ofNat (t + 1)) c = W0 c := fun c hc h9 => by rw [upd_ne _ _ h9]; exact e0 c hc
    rw [l_rclears]
    unfold q_thread37
    refine deeds_rx h hG ht 24 0 _ _ _ _ (by omega) hp ⟨⟨?_, ?_⟩, hz0 22 (by omega), hz0 21 (by omega), ?_⟩
    · subst eM
      refine hk.1.fresh hk.2.W ht ht9 e1 (upd_at _ _ _) hz0 (fun i l hi hn => ?_) (zx_at _ _ _ _) (fun c hc => ?_)
      · rw [zx_o _ _ (by omega)]
        exact clear_ne (by omega)
      · have q := clear_c (m := m) (b := 43) (t := t) hc
        have hne : (cmT t c).1 ≠ 0 := by
          rw [cmT_0]
          have a := List.all_eq_true.mp cmT_sv c (List.mem_range.mpr (by omega))
          rw [Bool.and_eq_true] at a
          have := Nat.le_of_ble_eq_true a.1
          dsimp only
          omega
        rw [zx_o _ _ (by omega)]
        exact q
    · exact hk.2.fresh ht e1 (upd_at _ _ _) hz0
    · have : nv (upd W 9 (Int32.ofNat (t + 1))) 9 = t + 1 := by
        unfold nv
        rw [upd_at]
        exact nv_on (by omega)
      omega
  | succ n ih =>
    intro k W hkn e0 hz
    rw [l_rclears]
    exact ih _ _ (by omega) (fun c hc => by rw [upd_ne _ _ (by omega)]; exact e0 c hc) (clr_step hz)
end ZPG
