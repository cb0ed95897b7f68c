/-- the types of the new cells -/
def k_tl : List Nat := [0, 1, 2, 3, 4, 5, 6, 7, 8, 9, 10, 11, 16, 17, 18, 4, 5, 6, 7, 8, 9, 10, 11, 16, 17, 18, 4, 5, 6, 7, 8, 9, 10, 11, 16, 17, 18, 12, 13, 14, 15, 19, 20, 21, 22, 23, 24, 25, 26, 27, 28, 29, 32, 30, 31, 30, 31, 30, 31, 30, 31, 33, 34, 35, 4, 5, 6, 7, 8, 9, 10, 11, 16, 17, 18, 12, 13, 14, 15, 4, 5, 6, 7, 8, 9, 10, 11, 16, 17, 18, 12, 13, 14, 15, 4, 5, 6, 7, 8, 9, 10, 11, 16, 17, 18, 12, 13, 14, 15, 36, 37, 38, 39, 40, 41, 42, 43, 44, 45, 46, 47, 48, 49, 50, 51, 52, 53, 54]
theorem k_good0 : cgoodb k0_tt k_tl k_tl k_cs2 = true := by decide +kernel
theorem k_good1 : cgoodb k1_tt k_tl k_tl k_cs2 = true := by decide +kernel
theorem k_typ0 : kTypb k0_tt = true := by decide +kernel
theorem k_typ1 : kTypb k1_tt = true := by decide +kernel
theorem cTy_fun {n : Nat} {tl : List Nat} : ∀ a t t', t < 1000 → t' < 1000 → cTy n tl a t → cTy n tl a t' → t = t' := fun a t t' _ _ h h' => by
  obtain ⟨k, e, hk⟩ := h
  obtain ⟨k', e', hk'⟩ := h'
  have ek : k = k' := by omega
  subst ek
  exact Option.some.inj (hk.symm.trans hk')
