/-! the new cells are as the types say -/
def cTy (n : Nat) (tl : List Nat) (a t : Nat) : Prop := ∃ k, a = n + k ∧ tl[k]? = some t
def cpokb (tl : List Nat) (p : kP) (v : cV) : Bool := match p with
  | .inl q => Nat.beq v.1 0 && (decide (-1000 ≤ v.2 ∧ v.2 ≤ 1000) && q.any (fun r => decide (r.1 ≤ v.2 ∧ v.2 ≤ r.2)))
  | .inr (.inl q) => Nat.beq v.1 1 && (decide (-1000 ≤ v.2 ∧ v.2 ≤ 1000) && q.any (fun r => decide (r.1 ≤ v.2 ∧ v.2 ≤ r.2)))
  | .inr (.inr t) => Nat.beq v.1 2 && (match v.2 with
    | .ofNat k => match tl[k]? with
      | some t' => Nat.beq t' t
      | none => false
    | _ => false)
theorem cpokb_ok {n : Nat} {tl : List Nat} {p : kP} {v : cV} (h : cpokb tl p v = true) : kpok (cTy n tl) p (cval n v) := by
  obtain ⟨k, z⟩ := v
  match p, h with
  | .inl q, h =>
    simp only [cpokb, Bool.and_eq_true, decide_eq_true_eq] at h
    obtain ⟨h1, h2, h3⟩ := h
    have e : k = 0 := Nat.beq_eq.mp h1
    subst e
    obtain ⟨r, hr, hb⟩ := List.any_eq_true.mp h3
    have hb := of_decide_eq_true hb
    have ez := c32 (z := z) (by omega) (by omega)
    exact ⟨Int32.ofInt z, rfl, r, hr, by rw [ez]; exact hb.1, by rw [ez]; exact hb.2⟩
  | .inr (.inl q), h =>
    simp only [cpokb, Bool.and_eq_true, decide_eq_true_eq] at h
    obtain ⟨h1, h2, h3⟩ := h
    have e : k = 1 := Nat.beq_eq.mp h1
    subst e
    obtain ⟨r, hr, hb⟩ := List.any_eq_true.mp h3
    have hb := of_decide_eq_true hb
    have ez : (Int64.ofInt z).toInt = z := Int64.toInt_ofInt_of_le (by omega) (by omega)
    exact ⟨Int64.ofInt z, rfl, r, hr, by rw [ez]; exact hb.1, by rw [ez]; exact hb.2⟩
  | .inr (.inr t), h =>
    simp only [cpokb, Bool.and_eq_true] at h
    obtain ⟨h1, h2⟩ := h
    have e : k = 2 := Nat.beq_eq.mp h1
    subst e
    split at h2
    · rename_i j
      split at h2
      · rename_i t' h3
        have e := Nat.beq_eq.mp h2
        subst e
        exact ⟨n + j, rfl, j, rfl, h3⟩
      · cases h2
    · cases h2
def cvalb (tl : List Nat) (T : kT) (c : cCell) : Bool := Nat.beq T.1 c.1 && (Nat.beq T.2.1 c.2.1 && (T.2.2.2.isEmpty && T.2.2.1.all (fun r => (List.range r.2.2.1).all (fun P => cpokb tl r.2.2.2 (cget c.2.2.1 c.2.2.2 (r.1 + r.2.1 * P))))))
theorem cvalb_ok {n : Nat} {tl : List Nat} {T : kT} {c : cCell} (h : cvalb tl T c = true) : T.1 = c.1 ∧ T.2.1 = c.2.1 ∧ kvals (cTy n tl) T (cVal n c) := by
  unfold cvalb at h
  simp only [Bool.and_eq_true] at h
  obtain ⟨h1, h2, h3, h4⟩ := h
  refine ⟨Nat.beq_eq.mp h1, Nat.beq_eq.mp h2, fun r hr P hP => cpokb_ok (List.all_eq_true.mp (List.all_eq_true.mp h4 r hr) P (List.mem_range.mpr hP)), fun r hr => ?_⟩
  rw [List.isEmpty_iff.mp h3] at hr
  cases hr
def cgoodb (tt : List kT) : List Nat → List Nat → List cCell → Bool
  | _, [], [] => true
  | tl, t :: ts, c :: cs => match tt[t]? with
    | some T => match cvalb tl T c && !Nat.beq t 12 with
      | true => cgoodb tt tl ts cs
      | false => false
    | none => false
  | _, _, _ => false
theorem cgoodb_ok {tt : List kT} {tl : List Nat} : ∀ {ts : List Nat} {cs : List cCell}, cgoodb tt tl ts cs = true → ∀ (k t : Nat), ts[k]? = some t → t ≠ 12 ∧ ∃ T c, tt[t]? = some T ∧ cs[k]? = some c ∧ cvalb tl T c = true
  | [], [], _, k, t, hk => by simp at hk
  | [], _ :: _, h, k, t, hk => by simp at hk
  | _ :: _, [], h, k, t, hk => by simp [cgoodb] at h
  | t0 :: ts, c :: cs, h, k, t, hk => by
    unfold cgoodb at h
    split at h
    · rename_i T h1
      split at h
      · rename_i h2
        simp only [Bool.and_eq_true, Bool.not_eq_true'] at h2
        cases k with
        | zero =>
          have e : t0 = t := by simpa using hk
          subst e
          exact ⟨fun e => by rw [e] at h2; exact absurd h2.2 (by decide), T, c, h1, rfl, h2.1⟩
        | succ k =>
          obtain ⟨a1, T', c', a2, a3, a4⟩ := cgoodb_ok h k t (by simpa using hk)
          exact ⟨a1, T', c', a2, by simpa using a3, a4⟩
      · cases h
    · cases h
theorem cgood_ok {D : va_G} {cA : Nat → ClassId} {tt : List kT} {tl : List Nat} {cs : List cCell} {n : Nat} {H0 H : Heap} (h : cgoodb tt tl tl cs = true) (hH : cHp D cA n H0 cs H) : kgood D cA tt (cTy n tl) n H := by
  refine ⟨fun a t T ha hT => ?_, fun a b c T To Tw V Vo Vw j z ha => ?_⟩
  · obtain ⟨k, rfl, hk⟩ := ha
    obtain ⟨-, T', c, a2, a3, a4⟩ := cgoodb_ok h k t hk
    have e : T' = T := Option.some.inj (a2.symm.trans hT)
    subst e
    obtain ⟨e1, e2, e3⟩ := cvalb_ok (n := n) a4
    refine ⟨Nat.le_add_right n k, cVal n c, ?_, e3⟩
    have hc := hH.2.2 k c a3
    unfold kcell at hc ⊢
    dsimp only at hc
    rw [e1, e2]
    exact hc
  · obtain ⟨k, rfl, hk⟩ := ha
    exact absurd rfl (cgoodb_ok h k 12 hk).1
