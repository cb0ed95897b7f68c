/-! CONSTRUCTORS, run in the concrete. Values: (0, z) a number, (1, z) a long, (2, k) the new cell k, (3, _) null.
A cell: the number of its kind (of a class, or 100 + that of an array's type), its length, its values one by one (those that are not there: the second part) -/
abbrev cV : Type := Nat × Int
abbrev cCell : Type := Nat × Nat × List (Nat × cV) × cV
def cval (n : Nat) (v : cV) : Value := match v.1 with
  | 0 => .int (Int32.ofInt v.2)
  | 1 => .long (Int64.ofInt v.2)
  | 2 => .ref (n + v.2.toNat)
  | _ => .null
def cget (l : List (Nat × cV)) (d : cV) (j : Nat) : cV := match l with
  | [] => d
  | q :: t => match Nat.beq q.1 j with
    | true => q.2
    | false => cget t d j
def cVal (n : Nat) (c : cCell) (j : Nat) : Value := cval n (cget c.2.2.1 c.2.2.2 j)
/-- the heap is H0, and behind it the cells cs -/
def cHp (D : va_G) (cA : Nat → ClassId) (n : Nat) (H0 : Heap) (cs : List cCell) (H : Heap) : Prop := H.size = n + cs.length ∧ (∀ q, q < n → H[q]? = H0[q]?) ∧ ∀ (k : Nat) (c : cCell), cs[k]? = some c → kcell D cA (c.1, c.2.1, [], []) (n + k) H (cVal n c)
theorem cHp_push {D : va_G} {cA : Nat → ClassId} {n : Nat} {H0 H H1 : Heap} {cs : List cCell} {c : cCell} (h : cHp D cA n H0 cs H) (h1 : H1.size = H.size + 1) (h2 : ∀ q, q < H.size → H1[q]? = H[q]?) (h3 : kcell D cA (c.1, c.2.1, [], []) H.size H1 (cVal n c)) : cHp D cA n H0 (cs ++ [c]) H1 := by
  obtain ⟨a1, a2, a3⟩ := h
  refine ⟨by rw [h1, a1, List.length_append]; rfl, fun q hq => (h2 q (by omega)).trans (a2 q hq), fun k c' hk => ?_⟩
  by_cases hl : k < cs.length
  · rw [List.getElem?_append_left hl] at hk
    exact kcell_kept (a3 k c' hk) (h2 _ (by omega))
  · have hk' := (List.getElem?_eq_some_iff.mp hk).1
    have e : k = cs.length := by simp at hk'; omega
    subst e
    have e1 : c = c' := by simpa using hk
    subst e1
    rw [← a1]
    exact h3
/-- a cell set anew -/
theorem cHp_set {D : va_G} {cA : Nat → ClassId} {n k : Nat} {H0 H H1 : Heap} {cs : List cCell} {c : cCell} (h : cHp D cA n H0 cs H) (hk : k < cs.length) (h1 : H1.size = H.size) (h2 : ∀ q, q ≠ n + k → H1[q]? = H[q]?) (h3 : kcell D cA (c.1, c.2.1, [], []) (n + k) H1 (cVal n c)) : cHp D cA n H0 (cs.set k c) H1 := by
  obtain ⟨a1, a2, a3⟩ := h
  refine ⟨by rw [h1, a1, List.length_set], fun q hq => (h2 q (by omega)).trans (a2 q hq), fun j c' hj => ?_⟩
  by_cases e : k = j
  · subst e
    rw [List.getElem?_set_self hk] at hj
    obtain rfl := Option.some.inj hj
    exact h3
  · rw [List.getElem?_set_ne e] at hj
    exact kcell_kept (a3 j c' hj) (h2 _ (by omega))
theorem cget_upd {l : List (Nat × cV)} {d v : cV} {j i : Nat} : cget ((j, v) :: l) d i = if i = j then v else cget l d i := by
  show (match Nat.beq j i with
    | true => v
    | false => cget l d i) = _
  cases h : Nat.beq j i with
  | true => have := Nat.beq_eq.mp h; subst this; simp
  | false =>
    have : i ≠ j := fun e => by subst e; rw [Nat.beq_refl] at h; cases h
    simp [this]
theorem cVal_upd {n j : Nat} {c : cCell} {v : cV} : cVal n (c.1, c.2.1, (j, v) :: c.2.2.1, c.2.2.2) = updV (cVal n c) j (cval n v) := by
  funext i
  unfold cVal updV
  rw [cget_upd]
  split <;> rfl
/-- the first value of a field -/
def cdef (d : String) : cV := match parseFieldDescriptor d with
  | some ty => match ty with
    | .boolean => (0, 0)
    | .byte => (0, 0)
    | .short => (0, 0)
    | .char => (0, 0)
    | .int => (0, 0)
    | .long => (1, 0)
    | _ => (3, 0)
  | none => (3, 0)
/-- a state: cells, locals, stack, how many cells and slots were counted -/
abbrev cSt : Type := List cCell × List (Nat × cV) × List cV × Nat × Nat
