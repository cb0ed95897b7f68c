/-! what is known at the law's start -/
theorem s_prim {A : Array Value} {s : State} {ty : FieldType} (hobj : ∀ C, ty ≠ .object C) (h : (Cond.arrayClass ty).before A s = true) : ∃ cA, ArrOfT s cA ty ∧ va_RA s cA ty := by
  obtain ⟨cA, k, comp, h1, h2, h3⟩ := Cond.arrayClass_spec h
  refine ⟨cA, fun N z => ⟨(fun k h => by cases h), k, h2, comp, h3⟩, ?_⟩
  unfold va_RA
  split
  · rename_i C
    exact absurd rfl (hobj C)
  · exact h1
theorem s_obj {A : Array Value} {s : State} {C : String} (h : (Cond.arrayOver (.object C)).before A s = true) : ∃ cA, ArrOfT s cA (.object C) ∧ va_RA s cA (.object C) := by
  obtain ⟨comp, cA, k, h1, -, h2, h3, h4⟩ := Cond.arrayOver_spec h
  exact ⟨cA, fun N z => ⟨(fun k h => by cases h), k, h2, comp, h3⟩, k, comp, h2, h3, h1, h4⟩
/-- classes and arrays, by choice out of the words -/
theorem s_known {A : Array Value} {s : State} (hcl : ∀ (ci : Nat) (q : vw_C), k_cl[ci]? = some q → ∃ (cC : ClassId) (iS : Nat → Nat), u_Kn s q.1 q.2.1 q.2.2 cC iS) (hat : ∀ (k : Nat) (ty : FieldType), k_aty[k]? = some ty → ∃ cA, ArrOfT s cA ty ∧ va_RA s cA ty) (hnw : ∀ w ∈ k_nw, va_Nw w s) (hao : ∀ C ∈ k_ao, va_AO C s) : ∃ (D : va_G) (cA : Nat → Nat) (tys : List (ClassId × FieldType)), cKn k_cl k_aty k_nw k_ao D cA tys s := by
  have h1 : ∀ ci : Nat, ∃ d : ClassId × (Nat → Nat), ∀ q : vw_C, k_cl[ci]? = some q → u_Kn s q.1 q.2.1 q.2.2 d.1 d.2 := fun ci => by
    cases h : k_cl[ci]? with
    | none => exact ⟨(0, fun _ => 0), fun q hq => by cases hq⟩
    | some q =>
      obtain ⟨cC, iS, hk⟩ := hcl ci q h
      exact ⟨(cC, iS), fun q' hq => by cases hq; exact hk⟩
  have h2 : ∀ k : Nat, ∃ c : Nat, ∀ ty : FieldType, k_aty[k]? = some ty → ArrOfT s c ty ∧ va_RA s c ty := fun k => by
    cases h : k_aty[k]? with
    | none => exact ⟨0, fun q hq => by cases hq⟩
    | some ty =>
      obtain ⟨c, hc⟩ := hat k ty h
      exact ⟨c, fun ty' hq => by cases hq; exact hc⟩
  obtain ⟨d, hd⟩ := Classical.axiomOfChoice h1
  obtain ⟨cA, hA⟩ := Classical.axiomOfChoice h2
  refine ⟨(fun ci => (d ci).1, fun ci => (d ci).2), cA, (List.range k_aty.length).map (fun k => (cA k, k_aty.getD k .int)), ⟨fun ci q hq => hd ci q hq, fun k q hq => ?_⟩, fun k ty hk => ?_, hnw, hao⟩
  · obtain ⟨j, hj, rfl⟩ := List.mem_map.mp (List.mem_of_getElem? hq)
    have hl := List.mem_range.mp hj
    exact hA j _ (by rw [List.getD_eq_getElem?_getD, List.getElem?_eq_getElem hl]; rfl)
  · have hl := (List.getElem?_eq_some_iff.mp hk).1
    rw [List.getElem?_map, List.getElem?_range hl]
    simp [List.getD_eq_getElem?_getD, hk]
