/-- the types of the new cells -/
def k_tl : List Nat := [0, 1, 2, 3, 4, 5, 6, 7, 8, 9, 10, 11, 16, 17, 18, 4, 5, 6, 7, 8, 9, 10, 11, 16, 17, 18, 4, 5, 6, 7, 8, 9, 10, 11, 16, 17, 18, 12, 13, 14, 15, 19, 20, 21, 22, 23, 24, 25, 26, 27, 28, 29, 32, 30, 31, 30, 31, 30, 31, 30, 31, 33, 34, 35, 4, 5, 6, 7, 8, 9, 10, 11, 16, 17, 18, 12, 13, 14, 15, 4, 5, 6, 7, 8, 9, 10, 11, 16, 17, 18, 12, 13, 14, 15, 4, 5, 6, 7, 8, 9, 10, 11, 16, 17, 18, 12, 13, 14, 15, 36, 37, 38, 39, 40, 41, 42, 43, 44, 45, 46, 47, 48, 49, 50, 51, 52, 53, 54]
theorem k_good0 : cgoodb k_tt 0 k_tl k_tl k_cs2 = true := by decide +kernel
theorem k_typ0 : kTypb k_tt = true := by decide +kernel
theorem cTy_fun {n : Nat} {tl : List Nat} : ∀ a t t', t < 1000 → t' < 1000 → cTy n tl a t → cTy n tl a t' → t = t' := fun a t t' _ _ h h' => by
  obtain ⟨k, e, hk⟩ := h
  obtain ⟨k', e', hk'⟩ := h'
  have ek : k = k' := by omega
  subst ek
  exact Option.some.inj (hk.symm.trans hk')
theorem sTy_typ {n : Nat} {aS : Nat → Nat} : kTyp k_tt (sTy n k_tl aS) := kTypb_ok k_typ0 (fun a t t' h1 h2 h h' => cTy_fun a t t' h1 h2 (sTy_c h h1) (sTy_c h' h2))
theorem sTy_str {n : Nat} {aS : Nat → Nat} : ∀ (j : Nat) (q : String × Nat × String), k_sk[j]? = some q → sTy n k_tl aS (aS j) (ksn j) := fun j q hq => Or.inr ⟨j, (List.getElem?_eq_some_iff.mp hq).1, rfl, rfl⟩
theorem k_tl_lt : ∀ t ∈ k_tl, t < 1000 := by decide +kernel
theorem sTy_S {n : Nat} {aS : Nat → Nat} : ∀ a t, 1000 ≤ t → sTy n k_tl aS a t → ∃ j, j < 34 ∧ a = aS j ∧ t = ksn j := fun a t ht h => by
  rcases h with ⟨k, -, hk⟩ | h
  · exact absurd (k_tl_lt t (List.mem_of_getElem? hk)) (by omega)
  · exact h
theorem k_start {D : va_G} {cA : Nat → ClassId} {n : Nat} {aS : Nat → Nat} {H0 H : Heap} (hH : cHp D cA n H0 k_cs2 H) : kgood D cA k_tt (sTy n k_tl aS) n H := cgood_ok (by decide) (fun hT => by cases Option.some.inj hT; decide) (fun hT => by cases Option.some.inj hT; decide) k_good0 hH
