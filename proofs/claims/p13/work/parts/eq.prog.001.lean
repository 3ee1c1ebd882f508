theorem zla_d : ∀ K, K < 7 → (zla 2).getD K 0 = Int32.ofNat (dlo K) ∧ (zla 3).getD K 0 = Int32.ofNat (dhi K) := by
  intro K hK
  match K, hK with
  | 0, _ => exact ⟨rfl, rfl⟩
  | 1, _ => exact ⟨rfl, rfl⟩
  | 2, _ => exact ⟨rfl, rfl⟩
  | 3, _ => exact ⟨rfl, rfl⟩
  | 4, _ => exact ⟨rfl, rfl⟩
  | 5, _ => exact ⟨rfl, rfl⟩
  | 6, _ => exact ⟨rfl, rfl⟩
