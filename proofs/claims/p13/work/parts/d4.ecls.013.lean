theorem ncE {b o k : Nat} (h : o = b + 3) : ¬ CGc b o k := by
  subst h
  rintro (⟨e, _⟩ | ⟨e, _⟩ | ⟨t, ht, ⟨e, _⟩ | e⟩ | ⟨l, hl, e, _⟩) <;> omega
