theorem ab_swx {x : Int32} (n : Nat) (hi : Int) (hh : (n : Int) = hi + 1) (h : ∀ j, j < n → ¬ x = nI j) : x.toInt < 0 ∨ hi < x.toInt := by
  by_cases h0 : x < 0
  · exact Or.inl (by rw [Int32.lt_iff_toInt_lt] at h0; simpa using h0)
  · obtain ⟨j, hj, e⟩ := nI_of h0
    right
    have h1 : ¬ j < n := fun q => h j q e
    rw [e, nI_toInt hj]
    omega
theorem ab_no {α : Type} {x : α} {P : Prop} (h : (none : Option α) = some x) : P := by cases h
