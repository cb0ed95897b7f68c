/-! what is known at the law's start -/
theorem s_prim {A : Array Value} {s : State} {ty : FieldType} (hobj : ∀ C, ty ≠ .object C) (h : (Cond.arrayClass ty).before A s = true) : ∃ cA, ArrOfT s cA ty ∧ va_RA s cA ty := by
  obtain ⟨cA, k, comp, h1, h2, h3⟩ := Cond.arrayClass_spec h
  refine ⟨cA, fun N z => ⟨(fun k h => by cases h), k, h2, comp, h3⟩, ?_⟩
  unfold va_RA
  split
  · rename_i C
    exact absurd rfl (hobj C)
  · exact h1
theorem s_obj {A : Array Value} {s : State} {C : String} (h : (Cond.arrayOver (.object C)).before A s = true) : ∃ cA, ArrOfT s cA (.object C) ∧ va_RA s cA (.object C) := by
  obtain ⟨comp, cA, k, h1, -, h2, h3, h4⟩ := Cond.arrayOver_spec h
  exact ⟨cA, fun N z => ⟨(fun k h => by cases h), k, h2, comp, h3⟩, k, comp, h2, h3, h1, h4⟩
