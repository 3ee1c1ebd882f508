noncomputable def R12 (c : Int32) (X : Int32 × (Nat → Int32) × Nat × Nat) : Prop := X.2.1 12 = c
