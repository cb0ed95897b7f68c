/-! the executor's steps are the machine's -/
theorem cmap_get {f : Nat → cV} {d : cV} {j : Nat} : ∀ {l : List Nat}, j ∈ l → cget (l.map (fun i => (i, f i))) d j = f j
  | [], h => by cases h
  | a :: l, h => by
    show (match Nat.beq a j with
      | true => f a
      | false => cget (l.map (fun i => (i, f i))) d j) = f j
    cases hb : Nat.beq a j with
    | true => have := Nat.beq_eq.mp hb; subst this; rfl
    | false =>
      rcases List.mem_cons.mp h with rfl | h
      · rw [Nat.beq_refl] at hb; cases hb
      · exact cmap_get h
/-- a field's first value is known -/
def cdok (d : String) : Bool := match parseFieldDescriptor d with
  | some ty => match ty with
    | .float => false
    | .double => false
    | _ => true
  | none => false
theorem cdef_ok {d : String} {ty : FieldType} {n : Nat} (h : cdok d = true) (hp : parseFieldDescriptor d = some ty) : cval n (cdef d) = defaultValue ty := by
  unfold cdok at h
  unfold cdef
  rw [hp] at h ⊢
  cases ty <;> first | rfl | cases h
theorem cfit_ok {d : String} {v : cV} {n : Nat} (h : cfit d v = true) : ∃ ty, parseFieldDescriptor d = some ty ∧ narrow ty (cval n v) = cval n v ∧ fits ty (cval n v) = true := by
  unfold cfit at h
  cases hp : parseFieldDescriptor d with
  | none => simp [hp] at h
  | some ty =>
    simp only [hp] at h
    obtain ⟨k, z⟩ := v
    refine ⟨ty, rfl, ?_⟩
    cases ty with
    | int =>
      have e : k = 0 := Nat.beq_eq.mp h
      subst e
      exact ⟨rfl, rfl⟩
    | boolean =>
      simp only [Bool.and_eq_true, Bool.or_eq_true, decide_eq_true_eq] at h
      have e : k = 0 := Nat.beq_eq.mp h.1
      subst e
      rcases h.2 with e | e <;> subst e <;> exact ⟨rfl, rfl⟩
    | array t =>
      have e : k = 2 := Nat.beq_eq.mp h
      subst e
      exact ⟨rfl, rfl⟩
    | object t =>
      have e : k = 2 := Nat.beq_eq.mp h
      subst e
      exact ⟨rfl, rfl⟩
    | _ => cases h
theorem cfnd_mem {α : Type} : ∀ {l : List (Nat × α)} {i : Nat} {v : α}, cfnd l i = some v → (i, v) ∈ l
  | [], i, v, h => by cases h
  | q :: t, i, v, h => by
    unfold cfnd at h
    cases h1 : Nat.beq q.1 i with
    | false => rw [h1] at h; exact List.mem_cons_of_mem _ (cfnd_mem h)
    | true =>
      rw [h1] at h
      have e1 := Nat.beq_eq.mp h1
      have e3 : q.2 = v := Option.some.inj h
      subst e1; subst e3
      exact List.mem_cons_self
theorem cloc_mem : ∀ {l : List (Nat × cV)} {i : Nat} {v : cV}, cloc l i = some v → (i, v) ∈ l
  | [], i, v, h => by cases h
  | q :: t, i, v, h => by
    unfold cloc at h
    cases h1 : Nat.beq q.1 i with
    | false => rw [h1] at h; exact List.mem_cons_of_mem _ (cloc_mem h)
    | true =>
      rw [h1] at h
      have e1 := Nat.beq_eq.mp h1
      have e3 : q.2 = v := Option.some.inj h
      subst e1; subst e3
      exact List.mem_cons_self
def cLv (n : Nat) (l : List (Nat × cV)) : List (Nat × Value) := l.map (fun q => (q.1, cval n q.2))
def cSk (n : Nat) (l : List cV) : List Value := l.map (cval n)
theorem cLv_at {n nL i : Nat} {l : List (Nat × cV)} {v : cV} {ls : Array Slot} (h : lv_has ls nL (cLv n l)) (hv : cloc l i = some v) : ls[i]? = some (.val (cval n v)) :=
  h.2.2 (i, cval n v) (List.mem_map.mpr ⟨(i, v), cloc_mem hv, rfl⟩)
theorem ccat {n : Nat} {v : cV} (h : Nat.beq v.1 1 = false) : (cval n v).category = 1 := by
  obtain ⟨k, z⟩ := v
  match k, h with
  | 0, _ => rfl
  | 1, h => cases h
  | 2, _ => rfl
  | k + 3, _ => rfl
/-- a local set: those that are listed behind -/
theorem cLv_put {n nL i : Nat} {l : List (Nat × cV)} {v : cV} {ls : Array Slot} (h : lv_has ls nL ((i, cval n v) :: (cLv n l).filter (fun q => !(q.1 == i) && !(q.1 + 1 == i && q.2.category == 2)))) : lv_has ls nL (cLv n ((i, v) :: l.filter (fun q => !Nat.beq q.1 i && !Nat.beq q.2.1 1))) := by
  refine ⟨h.1, h.2.1, fun q hq => h.2.2 q ?_⟩
  obtain ⟨r, hr, rfl⟩ := List.mem_map.mp hq
  rcases List.mem_cons.mp hr with rfl | hr
  · exact List.mem_cons_self
  · obtain ⟨r1, r2⟩ := List.mem_filter.mp hr
    simp only [Bool.and_eq_true, Bool.not_eq_true'] at r2
    refine List.mem_cons_of_mem _ (List.mem_filter.mpr ⟨List.mem_map.mpr ⟨r, r1, rfl⟩, ?_⟩)
    have e1 : ¬ r.1 = i := fun e => by rw [e, Nat.beq_refl] at r2; cases r2.1
    have e2 := ccat (n := n) r2.2
    simp [e1, e2]
theorem c32 {z : Int} (h1 : -2147483648 ≤ z) (h2 : z ≤ 2147483647) : (Int32.ofInt z).toInt = z := Int32.toInt_ofInt_of_le h1 (by omega)
theorem cnat_ok {z : Int} {t : Nat} (h : cnat z = some t) : z = (t : Int) := by
  unfold cnat at h
  split at h
  · obtain rfl := Option.some.inj h; rfl
  · cases h
