noncomputable def q_does (m : Nat → Nat → Int32) (W : Nat → Int32) (t K n : Nat) : QT := match K with
  | 0 => q_does0 m W t n
  | 1 => q_does1 m W t n
  | 2 => q_does2 m W t n
  | 3 => q_does3 m W t n
  | 4 => ((q_does4 W t n).1, (q_does4 W t n).2, m)
  | 5 => ((q_does5 W t n).1, (q_does5 W t n).2, m)
  | 6 => ((q_does6 W t n).1, (q_does6 W t n).2, m)
  | _ => q_does7 m W t n
theorem c_does {σ : Nat → Nat × (Nat → Int32)} {yy : (Nat → Nat → Int64) × Bool × Nat × Nat} {m : Nat → Nat → Int32} {W : Nat → Int32} {t K n : Nat} (hk : KG W t) (ht : t < 4) (hK : K < 8) (hn1 : K ≤ 1 → n ≤ 3) (hn3 : K ≤ 3 → n ≤ 31) : zF σ 8 1834 [.ref 137, .int (Int32.ofNat t), .int (Int32.ofNat K), .int (Int32.ofNat n)] (zS1, zrow m 138 W, yy) (.inl (some (.int (q_does m W t K n).1))) (zS1, zrow ((q_does m W t K n).2.2) 138 ((q_does m W t K n).2.1), yy) := by
  match K, hK, hn1, hn3 with
  | 0, _, hn1, hn3 => exact zF.up (c_does0 (m := m) (W := W) (t := t) (n := n) hk ht (Nat.lt_succ_of_le (hn1 (by omega)))) (by omega)
  | 1, _, hn1, hn3 => exact zF.up (c_does1 (m := m) (W := W) (t := t) (n := n) hk ht (Nat.lt_succ_of_le (hn1 (by omega)))) (by omega)
  | 2, _, hn1, hn3 => exact zF.up (c_does2 (m := m) (W := W) (t := t) (n := n) hk ht (Nat.lt_succ_of_le (hn3 (by omega)))) (by omega)
  | 3, _, hn1, hn3 => exact zF.up (c_does3 (m := m) (W := W) (t := t) (n := n) hk ht (Nat.lt_succ_of_le (hn3 (by omega)))) (by omega)
  | 4, _, hn1, hn3 => exact zF.up (c_does4 (m := m) (W := W) (t := t) (n := n) hk ht) (by omega)
  | 5, _, hn1, hn3 => exact zF.up (c_does5 (m := m) (W := W) (t := t) (n := n) hk ht) (by omega)
  | 6, _, hn1, hn3 => exact zF.up (c_does6 (m := m) (W := W) (t := t) (n := n) hk ht) (by omega)
  | 7, _, hn1, hn3 => exact zF.up (c_does7 (m := m) (W := W) (t := t) (n := n) hk ht) (by omega)
