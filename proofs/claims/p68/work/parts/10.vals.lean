/-! ABSTRACT VALUES: ints and longs as coefficient * symbol + offset, symbols by intervals -/
abbrev ia_E : Type := Nat × Int × Int
abbrev ia_I : Type := Int × Int
/-- int | long | ref symbol | lcmp of two | unknown -/
abbrev ia_V : Type := ia_E ⊕ ia_E ⊕ Nat ⊕ (ia_E × ia_E) ⊕ Unit
abbrev ia_i (x : ia_E) : ia_V := .inl x
abbrev ia_l (x : ia_E) : ia_V := .inr (.inl x)
abbrev ia_r (k : Nat) : ia_V := .inr (.inr (.inl k))
abbrev ia_c (x y : ia_E) : ia_V := .inr (.inr (.inr (.inl (x, y))))
abbrev ia_u : ia_V := .inr (.inr (.inr (.inr ())))
def ia_ev (env : List Int) (x : ia_E) : Option Int := if x.2.1 = 0 then some x.2.2 else (env[x.1]?).map (fun z => x.2.1 * z + x.2.2)
def ia_cmp (a b : Int) : Int := if a < b then -1 else if a = b then 0 else 1
def ia_ok (env : List Int) (ren : List Nat) (a : ia_V) (v : Value) : Prop := match a with
  | .inl x => ∃ n : Int32, v = .int n ∧ ia_ev env x = some n.toInt
  | .inr (.inl x) => ∃ n : Int64, v = .long n ∧ ia_ev env x = some n.toInt
  | .inr (.inr (.inl k)) => ∃ q : Nat, v = .ref q ∧ ren[k]? = some q
  | .inr (.inr (.inr (.inl (x, y)))) => ∃ (n : Int32) (a b : Int), v = .int n ∧ ia_ev env x = some a ∧ ia_ev env y = some b ∧ n.toInt = ia_cmp a b
  | .inr (.inr (.inr (.inr _))) => True
/-- the symbols' intervals hold -/
def ia_sy (env : List Int) (sy : List ia_I) : Prop := sy.length = env.length ∧ ∀ (k : Nat) (q : ia_I) (z : Int), sy[k]? = some q → env[k]? = some z → q.1 ≤ z ∧ z ≤ q.2
def ia_itv (sy : List ia_I) (x : ia_E) : Option ia_I := if x.2.1 = 0 then some (x.2.2, x.2.2) else match sy[x.1]? with
  | none => none
  | some q => if 0 < x.2.1 then some (x.2.1 * q.1 + x.2.2, x.2.1 * q.2 + x.2.2) else some (x.2.1 * q.2 + x.2.2, x.2.1 * q.1 + x.2.2)
/-- a new value within an interval -/
def ia_new (sy : List ia_I) (q : ia_I) : List ia_I × ia_E := if q.1 = q.2 then (sy, (0, 0, q.1)) else (sy ++ [q], (sy.length, 1, 0))
theorem ia_ev_ext {env t : List Int} {x : ia_E} {z : Int} (h : ia_ev env x = some z) : ia_ev (env ++ t) x = some z := by
  unfold ia_ev at h ⊢
  split at h
  · rename_i h0
    rw [if_pos h0]; exact h
  · rename_i h0
    rw [if_neg h0]
    obtain ⟨w, hw, e⟩ := Option.map_eq_some_iff.mp h
    rw [List.getElem?_append_left (List.getElem?_eq_some_iff.mp hw).1, hw]
    exact congrArg some e
theorem ia_ok_ext {env t : List Int} {ren u : List Nat} {a : ia_V} {v : Value} (h : ia_ok env ren a v) : ia_ok (env ++ t) (ren ++ u) a v := by
  match a, h with
  | .inl x, ⟨n, h1, h2⟩ => exact ⟨n, h1, ia_ev_ext h2⟩
  | .inr (.inl x), ⟨n, h1, h2⟩ => exact ⟨n, h1, ia_ev_ext h2⟩
  | .inr (.inr (.inl k)), ⟨q, h1, h2⟩ => exact ⟨q, h1, by rw [List.getElem?_append_left (List.getElem?_eq_some_iff.mp h2).1]; exact h2⟩
  | .inr (.inr (.inr (.inl (x, y)))), ⟨n, a, b, h1, h2, h3, h4⟩ => exact ⟨n, a, b, h1, ia_ev_ext h2, ia_ev_ext h3, h4⟩
  | .inr (.inr (.inr (.inr _))), _ => exact trivial
theorem ia_itv_ok {env : List Int} {sy : List ia_I} {x : ia_E} {q : ia_I} {z : Int} (hs : ia_sy env sy) (h : ia_itv sy x = some q) (he : ia_ev env x = some z) : q.1 ≤ z ∧ z ≤ q.2 := by
  unfold ia_itv at h
  unfold ia_ev at he
  split at h
  · rename_i h0
    rw [if_pos h0] at he
    cases h; cases he
    exact ⟨Int.le_refl _, Int.le_refl _⟩
  · rename_i h0
    rw [if_neg h0] at he
    obtain ⟨w, hw, e⟩ := Option.map_eq_some_iff.mp he
    split at h
    · cases h
    · rename_i q0 hq0
      obtain ⟨b1, b2⟩ := hs.2 _ _ _ hq0 hw
      split at h
      · rename_i hp
        cases h
        subst e
        exact ⟨Int.add_le_add_right (Int.mul_le_mul_of_nonneg_left b1 (Int.le_of_lt hp)) _, Int.add_le_add_right (Int.mul_le_mul_of_nonneg_left b2 (Int.le_of_lt hp)) _⟩
      · rename_i hp
        cases h
        subst e
        have hn : x.2.1 ≤ 0 := Int.not_lt.mp hp
        exact ⟨Int.add_le_add_right (Int.mul_le_mul_of_nonpos_left hn b2) _, Int.add_le_add_right (Int.mul_le_mul_of_nonpos_left hn b1) _⟩
theorem ia_new_ok {env : List Int} {sy : List ia_I} {q : ia_I} {z : Int} (hs : ia_sy env sy) (h1 : q.1 ≤ z) (h2 : z ≤ q.2) : ∃ t, ia_sy (env ++ t) (ia_new sy q).1 ∧ ia_ev (env ++ t) (ia_new sy q).2 = some z := by
  unfold ia_new
  split
  · rename_i h
    refine ⟨[], by simpa using hs, ?_⟩
    show some q.1 = some z
    rw [Int.le_antisymm h1 (by rw [h]; exact h2)]
  · refine ⟨[z], ⟨by simp [hs.1], fun k r w hk hw => ?_⟩, ?_⟩
    · by_cases hlt : k < sy.length
      · rw [List.getElem?_append_left hlt] at hk
        rw [List.getElem?_append_left (by rw [← hs.1]; exact hlt)] at hw
        exact hs.2 k r w hk hw
      · have hk' := (List.getElem?_eq_some_iff.mp hk).1
        have e : k = sy.length := by simp at hk'; omega
        subst e
        have e1 : r = q := by simpa using hk.symm
        have e2 : w = z := by rw [hs.1] at hw; simpa using hw.symm
        subst e1; subst e2
        exact ⟨h1, h2⟩
    · show (if (1 : Int) = 0 then _ else _) = _
      rw [if_neg (by decide)]
      show Option.map _ ((env ++ [z])[sy.length]?) = some z
      rw [hs.1]
      simp
