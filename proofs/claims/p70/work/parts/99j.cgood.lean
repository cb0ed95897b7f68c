/-! the new cells are as the types say -/
def cTy (n : Nat) (tl : List Nat) (a t : Nat) : Prop := ∃ k, a = n + k ∧ tl[k]? = some t
def cpokb (tl : List Nat) (p : kP) (v : cV) : Bool := match p with
  | .inl q => Nat.beq v.1 0 && (decide (-1000 ≤ v.2 ∧ v.2 ≤ 1000) && q.any (fun r => decide (r.1 ≤ v.2 ∧ v.2 ≤ r.2)))
  | .inr (.inl q) => Nat.beq v.1 1 && (decide (-1000 ≤ v.2 ∧ v.2 ≤ 1000) && q.any (fun r => decide (r.1 ≤ v.2 ∧ v.2 ≤ r.2)))
  | .inr (.inr t) => Nat.beq v.1 2 && (match v.2 with
    | .ofNat k => match tl[k]? with
      | some t' => Nat.beq t' t
      | none => false
    | _ => false)
theorem cpokb_ok {n : Nat} {tl : List Nat} {p : kP} {v : cV} (h : cpokb tl p v = true) : kpok (cTy n tl) p (cval n v) := by
  obtain ⟨k, z⟩ := v
  match p, h with
  | .inl q, h =>
    simp only [cpokb, Bool.and_eq_true, decide_eq_true_eq] at h
    obtain ⟨h1, h2, h3⟩ := h
    have e : k = 0 := Nat.beq_eq.mp h1
    subst e
    obtain ⟨r, hr, hb⟩ := List.any_eq_true.mp h3
    have hb := of_decide_eq_true hb
    have ez := c32 (z := z) (by omega) (by omega)
    exact ⟨Int32.ofInt z, rfl, r, hr, by rw [ez]; exact hb.1, by rw [ez]; exact hb.2⟩
  | .inr (.inl q), h =>
    simp only [cpokb, Bool.and_eq_true, decide_eq_true_eq] at h
    obtain ⟨h1, h2, h3⟩ := h
    have e : k = 1 := Nat.beq_eq.mp h1
    subst e
    obtain ⟨r, hr, hb⟩ := List.any_eq_true.mp h3
    have hb := of_decide_eq_true hb
    have ez : (Int64.ofInt z).toInt = z := Int64.toInt_ofInt_of_le (by omega) (by omega)
    exact ⟨Int64.ofInt z, rfl, r, hr, by rw [ez]; exact hb.1, by rw [ez]; exact hb.2⟩
  | .inr (.inr t), h =>
    simp only [cpokb, Bool.and_eq_true] at h
    obtain ⟨h1, h2⟩ := h
    have e : k = 2 := Nat.beq_eq.mp h1
    subst e
    split at h2
    · rename_i j
      split at h2
      · rename_i t' h3
        have e := Nat.beq_eq.mp h2
        subst e
        exact ⟨n + j, rfl, j, rfl, h3⟩
      · cases h2
    · cases h2
theorem ksn_ge (j : Nat) : 1000 ≤ ksn j := by
  unfold ksn
  split
  · omega
  · split <;> omega
/-- the new cells' types, and the strings' -/
def sTy (n : Nat) (tl : List Nat) (aS : Nat → Nat) (a t : Nat) : Prop := cTy n tl a t ∨ ∃ j, j < 34 ∧ a = aS j ∧ t = ksn j
theorem sTy_c {n : Nat} {tl : List Nat} {aS : Nat → Nat} {a t : Nat} (h : sTy n tl aS a t) (ht : t < 1000) : cTy n tl a t := by
  rcases h with h | ⟨j, -, -, rfl⟩
  · exact h
  · exact absurd (ksn_ge j) (by omega)
theorem kpok_s {n : Nat} {tl : List Nat} {aS : Nat → Nat} {p : kP} {v : Value} (h : kpok (cTy n tl) p v) : kpok (sTy n tl aS) p v := by
  match p, h with
  | .inl q, h => exact h
  | .inr (.inl q), h => exact h
  | .inr (.inr t), ⟨a, e, h⟩ => exact ⟨a, e, Or.inl h⟩
def czero (c : cCell) (j : Nat) : Bool := Nat.beq (cget c.2.2.1 c.2.2.2 j).1 0 && decide ((cget c.2.2.1 c.2.2.2 j).2 = 0)
theorem czero_ok {n : Nat} {c : cCell} {j : Nat} (h : czero c j = true) : cVal n c j = .int 0 := by
  unfold czero at h
  simp only [Bool.and_eq_true, decide_eq_true_eq] at h
  have e : cget c.2.2.1 c.2.2.2 j = (0, 0) := Prod.ext (Nat.beq_eq.mp h.1) h.2
  unfold cVal
  rw [e]
  rfl
def cvalb (tl : List Nat) (T : kT) (c : cCell) : Bool := Nat.beq T.1 c.1 && (Nat.beq T.2.1 c.2.1 && (T.2.2.2.all (fun r => czero c r.2.2.1) && T.2.2.1.all (fun r => (List.range r.2.2.1).all (fun P => cpokb tl r.2.2.2 (cget c.2.2.1 c.2.2.2 (r.1 + r.2.1 * P))))))
theorem cvalb_ok {n : Nat} {tl : List Nat} {aS : Nat → Nat} {T : kT} {c : cCell} (h : cvalb tl T c = true) : T.1 = c.1 ∧ T.2.1 = c.2.1 ∧ kvals (sTy n tl aS) T (cVal n c) := by
  unfold cvalb at h
  simp only [Bool.and_eq_true] at h
  obtain ⟨h1, h2, h3, h4⟩ := h
  refine ⟨Nat.beq_eq.mp h1, Nat.beq_eq.mp h2, fun r hr P hP => kpok_s (cpokb_ok (List.all_eq_true.mp (List.all_eq_true.mp h4 r hr) P (List.mem_range.mpr hP))), fun r hr z P hz hP hlt => ?_⟩
  rw [czero_ok (List.all_eq_true.mp h3 r hr)] at hz
  injection hz with hz
  subst hz
  have : (0 : Int32).toInt = 0 := rfl
  omega
/-- of the kinds 12 and 13 -/
def cspec (k t : Nat) (c : cCell) : Bool := match Nat.beq t 12 with
  | true => [1, 2, 3].all (fun j => Nat.beq (cget c.2.2.1 c.2.2.2 j).1 2 && decide ((cget c.2.2.1 c.2.2.2 j).2 = ((k + j : Nat) : Int)))
  | false => match Nat.beq t 13 with
    | true => (List.range 40).all (fun j => czero c j)
    | false => true
def cgoodb (tt : List kT) : Nat → List Nat → List Nat → List cCell → Bool
  | _, _, [], [] => true
  | k, tl, t :: ts, c :: cs => match tt[t]? with
    | some T => match cvalb tl T c && cspec k t c with
      | true => cgoodb tt (k + 1) tl ts cs
      | false => false
    | none => false
  | _, _, _, _ => false
theorem cgoodb_ok {tt : List kT} {tl : List Nat} : ∀ {ts : List Nat} {cs : List cCell} {k0 : Nat}, cgoodb tt k0 tl ts cs = true → ∀ (k t : Nat), ts[k]? = some t → ∃ T c, tt[t]? = some T ∧ cs[k]? = some c ∧ cvalb tl T c = true ∧ cspec (k0 + k) t c = true
  | [], [], k0, _, k, t, hk => by simp at hk
  | [], _ :: _, k0, h, k, t, hk => by simp at hk
  | _ :: _, [], k0, h, k, t, hk => by simp [cgoodb] at h
  | t0 :: ts, c :: cs, k0, h, k, t, hk => by
    unfold cgoodb at h
    split at h
    · rename_i T h1
      split at h
      · rename_i h2
        simp only [Bool.and_eq_true] at h2
        cases k with
        | zero =>
          have e : t0 = t := by simpa using hk
          subst e
          exact ⟨T, c, h1, rfl, h2.1, h2.2⟩
        | succ k =>
          obtain ⟨T', c', a2, a3, a4, a5⟩ := cgoodb_ok h k t (by simpa using hk)
          exact ⟨T', c', a2, by simpa using a3, a4, by rw [show k0 + (k + 1) = k0 + 1 + k by omega]; exact a5⟩
      · cases h
    · cases h
theorem cgood_ok {D : va_G} {cA : Nat → ClassId} {tt : List kT} {tl : List Nat} {cs : List cCell} {n : Nat} {aS : Nat → Nat} {H0 H : Heap} (hl : tt.length ≤ 1000) (hT4 : ∀ {T : kT}, tt[12]? = some T → 4 ≤ T.2.1) (hT13 : ∀ {T : kT}, tt[13]? = some T → 40 ≤ T.2.1) (h : cgoodb tt 0 tl tl cs = true) (hH : cHp D cA n H0 cs H) : kgood D cA tt (sTy n tl aS) n H := by
  have hlt : ∀ {t : Nat} {T : kT}, tt[t]? = some T → t < 1000 := fun hT => Nat.lt_of_lt_of_le (List.getElem?_eq_some_iff.mp hT).1 hl
  have cell : ∀ {k t : Nat} {T : kT}, tl[k]? = some t → tt[t]? = some T → ∃ c, kcell D cA T (n + k) H (cVal n c) ∧ cvalb tl T c = true ∧ cspec k t c = true := fun {k t T} hk hT => by
    obtain ⟨T', c, a2, a3, a4, a5⟩ := cgoodb_ok h k t hk
    obtain rfl : T' = T := Option.some.inj (a2.symm.trans hT)
    obtain ⟨e1, e2, -⟩ := cvalb_ok (n := n) (aS := aS) a4
    refine ⟨c, ?_, a4, by rw [Nat.zero_add] at a5; exact a5⟩
    have hc := hH.2.2 k c a3
    unfold kcell at hc ⊢
    dsimp only at hc
    rw [e1, e2]
    exact hc
  refine ⟨fun a t T ha hT => ?_, fun a T V ha hT hV => ?_, fun a b c T To Tw V Vo Vw j z ha hT hV hb hc hb13 hTo hVo hc15 hTw hVw hj ho hw => ?_⟩
  · obtain ⟨k, rfl, hk⟩ := sTy_c ha (hlt hT)
    obtain ⟨c, c1, c2, -⟩ := cell hk hT
    exact ⟨Nat.le_add_right n k, cVal n c, c1, (cvalb_ok c2).2.2⟩
  · obtain ⟨k, rfl, hk⟩ := sTy_c ha (by decide)
    obtain ⟨c, c1, c2, c3⟩ := cell hk hT
    have hs : ∀ j, j ∈ [1, 2, 3] → cVal n c j = .ref (n + k + j) := fun j hj => by
      have c3 : [1, 2, 3].all (fun j => Nat.beq (cget c.2.2.1 c.2.2.2 j).1 2 && decide ((cget c.2.2.1 c.2.2.2 j).2 = ((k + j : Nat) : Int))) = true := c3
      have g := List.all_eq_true.mp c3 j hj
      simp only [Bool.and_eq_true, decide_eq_true_eq] at g
      have e : cget c.2.2.1 c.2.2.2 j = (2, ((k + j : Nat) : Int)) := Prod.ext (Nat.beq_eq.mp g.1) g.2
      unfold cVal
      rw [e, Nat.add_assoc]
      rfl
    have hN : 4 ≤ T.2.1 := by
      have := hT4 hT
      omega
    exact ⟨by rw [kcell_uniq hV c1 (by omega)]; exact hs 1 (by decide), by rw [kcell_uniq hV c1 (by omega)]; exact hs 2 (by decide), by rw [kcell_uniq hV c1 (by omega)]; exact hs 3 (by decide)⟩
  · exfalso
    obtain ⟨k, rfl, hk⟩ := sTy_c hb13 (by decide)
    obtain ⟨c, c1, c2, c3⟩ := cell hk hTo
    have c3 : (List.range 40).all (fun j => czero c j) = true := c3
    have g := czero_ok (n := n) (List.all_eq_true.mp c3 j (List.mem_range.mpr hj))
    rw [kcell_uniq hVo c1 (by have := hT13 hTo; omega), g] at ho
    injection ho with ho
    exact absurd ho (by decide)
