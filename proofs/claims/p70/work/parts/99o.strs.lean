/-! THE STRINGS AT THE LAW'S START (printed by wip/p68/gen2/strstart.py) -/
section SSTR
variable {args : Array Value} {s : State} {A : Nat → Prop}
/-- one string: where it is, and what it holds -/
def s_P (args : Array Value) (s : State) (A : Nat → Prop) (t : Term) (i : Nat) : Prop := ∃ q : Nat × Nat, t.eval args s none [] s = some (.ref q.1) ∧ va_O "java/lang/String" q.1 A s s.heap ∧ va_OF "java/lang/String" "coder" "B" (.int 0) q.1 A s s.heap ∧ va_OF "java/lang/String" "value" "[B" (.ref q.2) q.1 A s s.heap ∧ va_T .byte q.2 (s_len.getD i 0) (fun j => .int ((s_byt.getD i []).getD j 0)) A s s.heap
theorem s_one {t : Term} {i : Nat} (hN : s_len.getD i 0 < 2 ^ 31) (hA : ∀ a : Nat, a < s.heap.size → ¬ A a) (hex : (Cond.exactly t "java/lang/String").before args s = true) (hco : (Cond.eq (.field t "java/lang/String" "coder" "B") (.int 0)).before args s = true) (har : (Cond.arrayOf (.field t "java/lang/String" "value" "[B") .byte).before args s = true) (hle : (Cond.eq (.length (.field t "java/lang/String" "value" "[B")) (.int (Int32.ofNat (s_len.getD i 0)))).before args s = true) (hel : ∀ j : Nat, j < s_len.getD i 0 → (Cond.eq (.elem (.field t "java/lang/String" "value" "[B") (.int (Int32.ofNat j))) (.int ((s_byt.getD i []).getD j 0))).before args s = true) : s_P args s A t i := by
  obtain ⟨a, c, cA, kA, q1, q2, q3, q4, q5, q6, -⟩ := Cond.exactly_spec (args := args) (first := s) (o := none) (s := s) (idx := []) (t := t) (cls := "java/lang/String") hex
  obtain ⟨v, ht, hT⟩ := va_Tof (f := fun j => .int ((s_byt.getD i []).getD j 0)) (A := A) hN har (va_eqt hle) (fun j hj => va_eqt (hel j hj)) hA
  exact ⟨(a, v), q1, ⟨cA, q3, q5, by rw [q6]; exact q2, hA a (Array.getElem?_eq_some_iff.mp q3).1⟩, vk_OFof q1 (va_eqt hco) hA, vk_OFof q1 ht hA, hT⟩
theorem s_eqr {t u : Term} {i j : Nat} (h : (Cond.eq t u).before args s = true) (hl : s_len.getD j 0 = s_len.getD i 0) (hb : s_byt.getD j [] = s_byt.getD i []) (ht : s_P args s A t i) : s_P args s A u j := by
  obtain ⟨q, h1, h2⟩ := ht
  refine ⟨q, ?_, ?_⟩
  · cases hu : u.eval args s none [] s with
    | none => simp [Cond.before, Cond.holds, Cond.value, h1, hu] at h
    | some w =>
      cases w <;> simp [Cond.before, Cond.holds, Cond.value, h1, hu] at h
      rw [h]
  · rw [hl, hb]
    exact h2
theorem s_eql {t u : Term} {i j : Nat} (h : (Cond.eq u t).before args s = true) (hl : s_len.getD j 0 = s_len.getD i 0) (hb : s_byt.getD j [] = s_byt.getD i []) (ht : s_P args s A t i) : s_P args s A u j := by
  obtain ⟨q, h1, h2⟩ := ht
  refine ⟨q, ?_, ?_⟩
  · cases hu : u.eval args s none [] s with
    | none => simp [Cond.before, Cond.holds, Cond.value, h1, hu] at h
    | some w =>
      cases w <;> simp [Cond.before, Cond.holds, Cond.value, h1, hu] at h
      rw [h]
  · rw [hl, hb]
    exact h2
theorem st_0 (hA : ∀ a : Nat, a < s.heap.size → ¬ A a) (hs : ∀ c ∈ flatC (Jvm.Cond.and given_1 narrow_1), c.before args s = true) : s_P args s A (.string "SilenceMatch$Reader" 80) 0 := s_one (by decide) hA (hs _ (by decide +kernel)) (hs _ (by decide +kernel)) (hs _ (by decide +kernel)) (hs _ (by decide +kernel)) (fun j hj => by
    have hj : j < 5 := hj
    match j, hj with
    | 0, _ => exact hs _ (by decide +kernel)
    | 1, _ => exact hs _ (by decide +kernel)
    | 2, _ => exact hs _ (by decide +kernel)
    | 3, _ => exact hs _ (by decide +kernel)
    | 4, _ => exact hs _ (by decide +kernel)
    | j + 5, hj => omega)
theorem st_1 (hA : ∀ a : Nat, a < s.heap.size → ¬ A a) (hs : ∀ c ∈ flatC (Jvm.Cond.and given_1 narrow_1), c.before args s = true) : s_P args s A (.string "SilenceMatch$Reader" 86) 1 := s_one (by decide) hA (hs _ (by decide +kernel)) (hs _ (by decide +kernel)) (hs _ (by decide +kernel)) (hs _ (by decide +kernel)) (fun j hj => by
    have hj : j < 4 := hj
    match j, hj with
    | 0, _ => exact hs _ (by decide +kernel)
    | 1, _ => exact hs _ (by decide +kernel)
    | 2, _ => exact hs _ (by decide +kernel)
    | 3, _ => exact hs _ (by decide +kernel)
    | j + 4, hj => omega)
theorem st_2 (hA : ∀ a : Nat, a < s.heap.size → ¬ A a) (hs : ∀ c ∈ flatC (Jvm.Cond.and given_1 narrow_1), c.before args s = true) : s_P args s A (.string "SilenceMatch$Reader" 94) 2 := s_one (by decide) hA (hs _ (by decide +kernel)) (hs _ (by decide +kernel)) (hs _ (by decide +kernel)) (hs _ (by decide +kernel)) (fun j hj => by
    have hj : j < 4 := hj
    match j, hj with
    | 0, _ => exact hs _ (by decide +kernel)
    | 1, _ => exact hs _ (by decide +kernel)
    | 2, _ => exact hs _ (by decide +kernel)
    | 3, _ => exact hs _ (by decide +kernel)
    | j + 4, hj => omega)
theorem st_3 (hA : ∀ a : Nat, a < s.heap.size → ¬ A a) (hs : ∀ c ∈ flatC (Jvm.Cond.and given_1 narrow_1), c.before args s = true) : s_P args s A (.string "SilenceMatch$Reader" 98) 3 := s_one (by decide) hA (hs _ (by decide +kernel)) (hs _ (by decide +kernel)) (hs _ (by decide +kernel)) (hs _ (by decide +kernel)) (fun j hj => by
    have hj : j < 4 := hj
    match j, hj with
    | 0, _ => exact hs _ (by decide +kernel)
    | 1, _ => exact hs _ (by decide +kernel)
    | 2, _ => exact hs _ (by decide +kernel)
    | 3, _ => exact hs _ (by decide +kernel)
    | j + 4, hj => omega)
theorem st_4 (hA : ∀ a : Nat, a < s.heap.size → ¬ A a) (hs : ∀ c ∈ flatC (Jvm.Cond.and given_1 narrow_1), c.before args s = true) : s_P args s A (.string "SilenceMatch$Reader" 102) 4 := s_one (by decide) hA (hs _ (by decide +kernel)) (hs _ (by decide +kernel)) (hs _ (by decide +kernel)) (hs _ (by decide +kernel)) (fun j hj => by
    have hj : j < 5 := hj
    match j, hj with
    | 0, _ => exact hs _ (by decide +kernel)
    | 1, _ => exact hs _ (by decide +kernel)
    | 2, _ => exact hs _ (by decide +kernel)
    | 3, _ => exact hs _ (by decide +kernel)
    | 4, _ => exact hs _ (by decide +kernel)
    | j + 5, hj => omega)
theorem st_5 (hA : ∀ a : Nat, a < s.heap.size → ¬ A a) (hs : ∀ c ∈ flatC (Jvm.Cond.and given_1 narrow_1), c.before args s = true) : s_P args s A (.string "SilenceMatch$Reader" 106) 5 := s_one (by decide) hA (hs _ (by decide +kernel)) (hs _ (by decide +kernel)) (hs _ (by decide +kernel)) (hs _ (by decide +kernel)) (fun j hj => by
    have hj : j < 4 := hj
    match j, hj with
    | 0, _ => exact hs _ (by decide +kernel)
    | 1, _ => exact hs _ (by decide +kernel)
    | 2, _ => exact hs _ (by decide +kernel)
    | 3, _ => exact hs _ (by decide +kernel)
    | j + 4, hj => omega)
theorem st_6 (hA : ∀ a : Nat, a < s.heap.size → ¬ A a) (hs : ∀ c ∈ flatC (Jvm.Cond.and given_1 narrow_1), c.before args s = true) : s_P args s A (.string "SilenceMatch$Reader" 49) 6 := s_one (by decide) hA (hs _ (by decide +kernel)) (hs _ (by decide +kernel)) (hs _ (by decide +kernel)) (hs _ (by decide +kernel)) (fun j hj => by
    have hj : j < 6 := hj
    match j, hj with
    | 0, _ => exact hs _ (by decide +kernel)
    | 1, _ => exact hs _ (by decide +kernel)
    | 2, _ => exact hs _ (by decide +kernel)
    | 3, _ => exact hs _ (by decide +kernel)
    | 4, _ => exact hs _ (by decide +kernel)
    | 5, _ => exact hs _ (by decide +kernel)
    | j + 6, hj => omega)
theorem st_7 (hA : ∀ a : Nat, a < s.heap.size → ¬ A a) (hs : ∀ c ∈ flatC (Jvm.Cond.and given_1 narrow_1), c.before args s = true) : s_P args s A (.string "SilenceMatch$Reader" 121) 7 := s_one (by decide) hA (hs _ (by decide +kernel)) (hs _ (by decide +kernel)) (hs _ (by decide +kernel)) (hs _ (by decide +kernel)) (fun j hj => by
    have hj : j < 2 := hj
    match j, hj with
    | 0, _ => exact hs _ (by decide +kernel)
    | 1, _ => exact hs _ (by decide +kernel)
    | j + 2, hj => omega)
theorem st_8 (hA : ∀ a : Nat, a < s.heap.size → ¬ A a) (hs : ∀ c ∈ flatC (Jvm.Cond.and given_1 narrow_1), c.before args s = true) : s_P args s A (.string "SilenceMatch$Reader" 126) 8 := s_one (by decide) hA (hs _ (by decide +kernel)) (hs _ (by decide +kernel)) (hs _ (by decide +kernel)) (hs _ (by decide +kernel)) (fun j hj => by
    have hj : j < 2 := hj
    match j, hj with
    | 0, _ => exact hs _ (by decide +kernel)
    | 1, _ => exact hs _ (by decide +kernel)
    | j + 2, hj => omega)
theorem st_9 (hA : ∀ a : Nat, a < s.heap.size → ¬ A a) (hs : ∀ c ∈ flatC (Jvm.Cond.and given_1 narrow_1), c.before args s = true) : s_P args s A (.string "SilenceMatch$Reader" 135) 9 := s_one (by decide) hA (hs _ (by decide +kernel)) (hs _ (by decide +kernel)) (hs _ (by decide +kernel)) (hs _ (by decide +kernel)) (fun j hj => by
    have hj : j < 4 := hj
    match j, hj with
    | 0, _ => exact hs _ (by decide +kernel)
    | 1, _ => exact hs _ (by decide +kernel)
    | 2, _ => exact hs _ (by decide +kernel)
    | 3, _ => exact hs _ (by decide +kernel)
    | j + 4, hj => omega)
theorem st_10 (hA : ∀ a : Nat, a < s.heap.size → ¬ A a) (hs : ∀ c ∈ flatC (Jvm.Cond.and given_1 narrow_1), c.before args s = true) : s_P args s A (.string "SilenceMatch$Reader" 139) 10 := s_one (by decide) hA (hs _ (by decide +kernel)) (hs _ (by decide +kernel)) (hs _ (by decide +kernel)) (hs _ (by decide +kernel)) (fun j hj => by
    have hj : j < 5 := hj
    match j, hj with
    | 0, _ => exact hs _ (by decide +kernel)
    | 1, _ => exact hs _ (by decide +kernel)
    | 2, _ => exact hs _ (by decide +kernel)
    | 3, _ => exact hs _ (by decide +kernel)
    | 4, _ => exact hs _ (by decide +kernel)
    | j + 5, hj => omega)
theorem st_11 (hA : ∀ a : Nat, a < s.heap.size → ¬ A a) (hs : ∀ c ∈ flatC (Jvm.Cond.and given_1 narrow_1), c.before args s = true) : s_P args s A (.string "SilenceMatch$Reader" 58) 11 := s_one (by decide) hA (hs _ (by decide +kernel)) (hs _ (by decide +kernel)) (hs _ (by decide +kernel)) (hs _ (by decide +kernel)) (fun j hj => by
    have hj : j < 6 := hj
    match j, hj with
    | 0, _ => exact hs _ (by decide +kernel)
    | 1, _ => exact hs _ (by decide +kernel)
    | 2, _ => exact hs _ (by decide +kernel)
    | 3, _ => exact hs _ (by decide +kernel)
    | 4, _ => exact hs _ (by decide +kernel)
    | 5, _ => exact hs _ (by decide +kernel)
    | j + 6, hj => omega)
theorem st_12 (hA : ∀ a : Nat, a < s.heap.size → ¬ A a) (hs : ∀ c ∈ flatC (Jvm.Cond.and given_1 narrow_1), c.before args s = true) : s_P args s A (.string "SilenceMatch$Reader" 149) 12 := s_one (by decide) hA (hs _ (by decide +kernel)) (hs _ (by decide +kernel)) (hs _ (by decide +kernel)) (hs _ (by decide +kernel)) (fun j hj => by
    have hj : j < 4 := hj
    match j, hj with
    | 0, _ => exact hs _ (by decide +kernel)
    | 1, _ => exact hs _ (by decide +kernel)
    | 2, _ => exact hs _ (by decide +kernel)
    | 3, _ => exact hs _ (by decide +kernel)
    | j + 4, hj => omega)
theorem st_13 (hA : ∀ a : Nat, a < s.heap.size → ¬ A a) (hs : ∀ c ∈ flatC (Jvm.Cond.and given_1 narrow_1), c.before args s = true) : s_P args s A (.string "SilenceMatch$Reader" 63) 13 := s_one (by decide) hA (hs _ (by decide +kernel)) (hs _ (by decide +kernel)) (hs _ (by decide +kernel)) (hs _ (by decide +kernel)) (fun j hj => by
    have hj : j < 4 := hj
    match j, hj with
    | 0, _ => exact hs _ (by decide +kernel)
    | 1, _ => exact hs _ (by decide +kernel)
    | 2, _ => exact hs _ (by decide +kernel)
    | 3, _ => exact hs _ (by decide +kernel)
    | j + 4, hj => omega)
theorem st_14 (hA : ∀ a : Nat, a < s.heap.size → ¬ A a) (hs : ∀ c ∈ flatC (Jvm.Cond.and given_1 narrow_1), c.before args s = true) : s_P args s A (.string "SilenceMatch$Reader" 156) 14 := s_one (by decide) hA (hs _ (by decide +kernel)) (hs _ (by decide +kernel)) (hs _ (by decide +kernel)) (hs _ (by decide +kernel)) (fun j hj => by
    have hj : j < 4 := hj
    match j, hj with
    | 0, _ => exact hs _ (by decide +kernel)
    | 1, _ => exact hs _ (by decide +kernel)
    | 2, _ => exact hs _ (by decide +kernel)
    | 3, _ => exact hs _ (by decide +kernel)
    | j + 4, hj => omega)
theorem st_15 (hA : ∀ a : Nat, a < s.heap.size → ¬ A a) (hs : ∀ c ∈ flatC (Jvm.Cond.and given_1 narrow_1), c.before args s = true) : s_P args s A (.string "SilenceMatch$Reader" 160) 15 := s_one (by decide) hA (hs _ (by decide +kernel)) (hs _ (by decide +kernel)) (hs _ (by decide +kernel)) (hs _ (by decide +kernel)) (fun j hj => by
    have hj : j < 2 := hj
    match j, hj with
    | 0, _ => exact hs _ (by decide +kernel)
    | 1, _ => exact hs _ (by decide +kernel)
    | j + 2, hj => omega)
theorem st_16 (hA : ∀ a : Nat, a < s.heap.size → ¬ A a) (hs : ∀ c ∈ flatC (Jvm.Cond.and given_1 narrow_1), c.before args s = true) : s_P args s A (.string "SilenceMatch$Reader" 68) 16 := s_one (by decide) hA (hs _ (by decide +kernel)) (hs _ (by decide +kernel)) (hs _ (by decide +kernel)) (hs _ (by decide +kernel)) (fun j hj => by
    have hj : j < 7 := hj
    match j, hj with
    | 0, _ => exact hs _ (by decide +kernel)
    | 1, _ => exact hs _ (by decide +kernel)
    | 2, _ => exact hs _ (by decide +kernel)
    | 3, _ => exact hs _ (by decide +kernel)
    | 4, _ => exact hs _ (by decide +kernel)
    | 5, _ => exact hs _ (by decide +kernel)
    | 6, _ => exact hs _ (by decide +kernel)
    | j + 7, hj => omega)
theorem st_17 (hA : ∀ a : Nat, a < s.heap.size → ¬ A a) (hs : ∀ c ∈ flatC (Jvm.Cond.and given_1 narrow_1), c.before args s = true) : s_P args s A (.string "SilenceMatchModel" 161) 17 := s_one (by decide) hA (hs _ (by decide +kernel)) (hs _ (by decide +kernel)) (hs _ (by decide +kernel)) (hs _ (by decide +kernel)) (fun j hj => by
    have hj : j < 5 := hj
    match j, hj with
    | 0, _ => exact hs _ (by decide +kernel)
    | 1, _ => exact hs _ (by decide +kernel)
    | 2, _ => exact hs _ (by decide +kernel)
    | 3, _ => exact hs _ (by decide +kernel)
    | 4, _ => exact hs _ (by decide +kernel)
    | j + 5, hj => omega)
theorem st_18 (hA : ∀ a : Nat, a < s.heap.size → ¬ A a) (hs : ∀ c ∈ flatC (Jvm.Cond.and given_1 narrow_1), c.before args s = true) : s_P args s A (.string "SilenceMatchModel" 163) 18 := s_one (by decide) hA (hs _ (by decide +kernel)) (hs _ (by decide +kernel)) (hs _ (by decide +kernel)) (hs _ (by decide +kernel)) (fun j hj => by
    have hj : j < 4 := hj
    match j, hj with
    | 0, _ => exact hs _ (by decide +kernel)
    | 1, _ => exact hs _ (by decide +kernel)
    | 2, _ => exact hs _ (by decide +kernel)
    | 3, _ => exact hs _ (by decide +kernel)
    | j + 4, hj => omega)
theorem st_19 (hA : ∀ a : Nat, a < s.heap.size → ¬ A a) (hs : ∀ c ∈ flatC (Jvm.Cond.and given_1 narrow_1), c.before args s = true) : s_P args s A (.string "SilenceMatchModel" 169) 19 := s_one (by decide) hA (hs _ (by decide +kernel)) (hs _ (by decide +kernel)) (hs _ (by decide +kernel)) (hs _ (by decide +kernel)) (fun j hj => by
    have hj : j < 4 := hj
    match j, hj with
    | 0, _ => exact hs _ (by decide +kernel)
    | 1, _ => exact hs _ (by decide +kernel)
    | 2, _ => exact hs _ (by decide +kernel)
    | 3, _ => exact hs _ (by decide +kernel)
    | j + 4, hj => omega)
theorem st_20 (hA : ∀ a : Nat, a < s.heap.size → ¬ A a) (hs : ∀ c ∈ flatC (Jvm.Cond.and given_1 narrow_1), c.before args s = true) : s_P args s A (.string "SilenceMatchModel" 171) 20 := s_one (by decide) hA (hs _ (by decide +kernel)) (hs _ (by decide +kernel)) (hs _ (by decide +kernel)) (hs _ (by decide +kernel)) (fun j hj => by
    have hj : j < 4 := hj
    match j, hj with
    | 0, _ => exact hs _ (by decide +kernel)
    | 1, _ => exact hs _ (by decide +kernel)
    | 2, _ => exact hs _ (by decide +kernel)
    | 3, _ => exact hs _ (by decide +kernel)
    | j + 4, hj => omega)
theorem st_21 (hA : ∀ a : Nat, a < s.heap.size → ¬ A a) (hs : ∀ c ∈ flatC (Jvm.Cond.and given_1 narrow_1), c.before args s = true) : s_P args s A (.string "SilenceMatchModel" 173) 21 := s_one (by decide) hA (hs _ (by decide +kernel)) (hs _ (by decide +kernel)) (hs _ (by decide +kernel)) (hs _ (by decide +kernel)) (fun j hj => by
    have hj : j < 5 := hj
    match j, hj with
    | 0, _ => exact hs _ (by decide +kernel)
    | 1, _ => exact hs _ (by decide +kernel)
    | 2, _ => exact hs _ (by decide +kernel)
    | 3, _ => exact hs _ (by decide +kernel)
    | 4, _ => exact hs _ (by decide +kernel)
    | j + 5, hj => omega)
theorem st_22 (hA : ∀ a : Nat, a < s.heap.size → ¬ A a) (hs : ∀ c ∈ flatC (Jvm.Cond.and given_1 narrow_1), c.before args s = true) : s_P args s A (.string "SilenceMatchModel" 175) 22 := s_one (by decide) hA (hs _ (by decide +kernel)) (hs _ (by decide +kernel)) (hs _ (by decide +kernel)) (hs _ (by decide +kernel)) (fun j hj => by
    have hj : j < 4 := hj
    match j, hj with
    | 0, _ => exact hs _ (by decide +kernel)
    | 1, _ => exact hs _ (by decide +kernel)
    | 2, _ => exact hs _ (by decide +kernel)
    | 3, _ => exact hs _ (by decide +kernel)
    | j + 4, hj => omega)
theorem st_23 (hA : ∀ a : Nat, a < s.heap.size → ¬ A a) (hs : ∀ c ∈ flatC (Jvm.Cond.and given_1 narrow_1), c.before args s = true) : s_P args s A (.string "SilenceMatchModel" 187) 23 := s_one (by decide) hA (hs _ (by decide +kernel)) (hs _ (by decide +kernel)) (hs _ (by decide +kernel)) (hs _ (by decide +kernel)) (fun j hj => by
    have hj : j < 6 := hj
    match j, hj with
    | 0, _ => exact hs _ (by decide +kernel)
    | 1, _ => exact hs _ (by decide +kernel)
    | 2, _ => exact hs _ (by decide +kernel)
    | 3, _ => exact hs _ (by decide +kernel)
    | 4, _ => exact hs _ (by decide +kernel)
    | 5, _ => exact hs _ (by decide +kernel)
    | j + 6, hj => omega)
theorem st_24 (hA : ∀ a : Nat, a < s.heap.size → ¬ A a) (hs : ∀ c ∈ flatC (Jvm.Cond.and given_1 narrow_1), c.before args s = true) : s_P args s A (.string "SilenceMatchModel" 189) 24 := s_one (by decide) hA (hs _ (by decide +kernel)) (hs _ (by decide +kernel)) (hs _ (by decide +kernel)) (hs _ (by decide +kernel)) (fun j hj => by
    have hj : j < 6 := hj
    match j, hj with
    | 0, _ => exact hs _ (by decide +kernel)
    | 1, _ => exact hs _ (by decide +kernel)
    | 2, _ => exact hs _ (by decide +kernel)
    | 3, _ => exact hs _ (by decide +kernel)
    | 4, _ => exact hs _ (by decide +kernel)
    | 5, _ => exact hs _ (by decide +kernel)
    | j + 6, hj => omega)
theorem st_25 (hA : ∀ a : Nat, a < s.heap.size → ¬ A a) (hs : ∀ c ∈ flatC (Jvm.Cond.and given_1 narrow_1), c.before args s = true) : s_P args s A (.string "SilenceMatchModel" 191) 25 := s_one (by decide) hA (hs _ (by decide +kernel)) (hs _ (by decide +kernel)) (hs _ (by decide +kernel)) (hs _ (by decide +kernel)) (fun j hj => by
    have hj : j < 4 := hj
    match j, hj with
    | 0, _ => exact hs _ (by decide +kernel)
    | 1, _ => exact hs _ (by decide +kernel)
    | 2, _ => exact hs _ (by decide +kernel)
    | 3, _ => exact hs _ (by decide +kernel)
    | j + 4, hj => omega)
theorem st_26 (hA : ∀ a : Nat, a < s.heap.size → ¬ A a) (hs : ∀ c ∈ flatC (Jvm.Cond.and given_1 narrow_1), c.before args s = true) : s_P args s A (.string "SilenceMatchModel" 193) 26 := s_one (by decide) hA (hs _ (by decide +kernel)) (hs _ (by decide +kernel)) (hs _ (by decide +kernel)) (hs _ (by decide +kernel)) (fun j hj => by
    have hj : j < 7 := hj
    match j, hj with
    | 0, _ => exact hs _ (by decide +kernel)
    | 1, _ => exact hs _ (by decide +kernel)
    | 2, _ => exact hs _ (by decide +kernel)
    | 3, _ => exact hs _ (by decide +kernel)
    | 4, _ => exact hs _ (by decide +kernel)
    | 5, _ => exact hs _ (by decide +kernel)
    | 6, _ => exact hs _ (by decide +kernel)
    | j + 7, hj => omega)
theorem st_27 (hA : ∀ a : Nat, a < s.heap.size → ¬ A a) (hs : ∀ c ∈ flatC (Jvm.Cond.and given_1 narrow_1), c.before args s = true) : s_P args s A (.string "SilenceMatchModel" 178) 27 := s_one (by decide) hA (hs _ (by decide +kernel)) (hs _ (by decide +kernel)) (hs _ (by decide +kernel)) (hs _ (by decide +kernel)) (fun j hj => by
    have hj : j < 2 := hj
    match j, hj with
    | 0, _ => exact hs _ (by decide +kernel)
    | 1, _ => exact hs _ (by decide +kernel)
    | j + 2, hj => omega)
theorem st_28 (hA : ∀ a : Nat, a < s.heap.size → ¬ A a) (hs : ∀ c ∈ flatC (Jvm.Cond.and given_1 narrow_1), c.before args s = true) : s_P args s A (.string "SilenceMatchModel" 177) 28 := s_one (by decide) hA (hs _ (by decide +kernel)) (hs _ (by decide +kernel)) (hs _ (by decide +kernel)) (hs _ (by decide +kernel)) (fun j hj => by
    have hj : j < 2 := hj
    match j, hj with
    | 0, _ => exact hs _ (by decide +kernel)
    | 1, _ => exact hs _ (by decide +kernel)
    | j + 2, hj => omega)
theorem st_29 (hA : ∀ a : Nat, a < s.heap.size → ¬ A a) (hs : ∀ c ∈ flatC (Jvm.Cond.and given_1 narrow_1), c.before args s = true) : s_P args s A (.string "SilenceMatchModel" 183) 29 := s_one (by decide) hA (hs _ (by decide +kernel)) (hs _ (by decide +kernel)) (hs _ (by decide +kernel)) (hs _ (by decide +kernel)) (fun j hj => by
    have hj : j < 4 := hj
    match j, hj with
    | 0, _ => exact hs _ (by decide +kernel)
    | 1, _ => exact hs _ (by decide +kernel)
    | 2, _ => exact hs _ (by decide +kernel)
    | 3, _ => exact hs _ (by decide +kernel)
    | j + 4, hj => omega)
theorem st_30 (hA : ∀ a : Nat, a < s.heap.size → ¬ A a) (hs : ∀ c ∈ flatC (Jvm.Cond.and given_1 narrow_1), c.before args s = true) : s_P args s A (.string "SilenceMatchModel" 185) 30 := s_one (by decide) hA (hs _ (by decide +kernel)) (hs _ (by decide +kernel)) (hs _ (by decide +kernel)) (hs _ (by decide +kernel)) (fun j hj => by
    have hj : j < 5 := hj
    match j, hj with
    | 0, _ => exact hs _ (by decide +kernel)
    | 1, _ => exact hs _ (by decide +kernel)
    | 2, _ => exact hs _ (by decide +kernel)
    | 3, _ => exact hs _ (by decide +kernel)
    | 4, _ => exact hs _ (by decide +kernel)
    | j + 5, hj => omega)
theorem st_31 (hA : ∀ a : Nat, a < s.heap.size → ¬ A a) (hs : ∀ c ∈ flatC (Jvm.Cond.and given_1 narrow_1), c.before args s = true) : s_P args s A (.string "SilenceMatchModel" 198) 31 := s_one (by decide) hA (hs _ (by decide +kernel)) (hs _ (by decide +kernel)) (hs _ (by decide +kernel)) (hs _ (by decide +kernel)) (fun j hj => by
    have hj : j < 4 := hj
    match j, hj with
    | 0, _ => exact hs _ (by decide +kernel)
    | 1, _ => exact hs _ (by decide +kernel)
    | 2, _ => exact hs _ (by decide +kernel)
    | 3, _ => exact hs _ (by decide +kernel)
    | j + 4, hj => omega)
theorem st_32 (hA : ∀ a : Nat, a < s.heap.size → ¬ A a) (hs : ∀ c ∈ flatC (Jvm.Cond.and given_1 narrow_1), c.before args s = true) : s_P args s A (.string "SilenceMatchModel" 200) 32 := s_one (by decide) hA (hs _ (by decide +kernel)) (hs _ (by decide +kernel)) (hs _ (by decide +kernel)) (hs _ (by decide +kernel)) (fun j hj => by
    have hj : j < 4 := hj
    match j, hj with
    | 0, _ => exact hs _ (by decide +kernel)
    | 1, _ => exact hs _ (by decide +kernel)
    | 2, _ => exact hs _ (by decide +kernel)
    | 3, _ => exact hs _ (by decide +kernel)
    | j + 4, hj => omega)
theorem st_33 (hA : ∀ a : Nat, a < s.heap.size → ¬ A a) (hs : ∀ c ∈ flatC (Jvm.Cond.and given_1 narrow_1), c.before args s = true) : s_P args s A (.string "SilenceMatchModel" 201) 33 := s_one (by decide) hA (hs _ (by decide +kernel)) (hs _ (by decide +kernel)) (hs _ (by decide +kernel)) (hs _ (by decide +kernel)) (fun j hj => by
    have hj : j < 2 := hj
    match j, hj with
    | 0, _ => exact hs _ (by decide +kernel)
    | 1, _ => exact hs _ (by decide +kernel)
    | j + 2, hj => omega)
def s_tm (i : Nat) : Term := match k_sk[i]? with
  | some q => .string q.1 q.2.1
  | none => .int 0
theorem st_all (hA : ∀ a : Nat, a < s.heap.size → ¬ A a) (hs : ∀ c ∈ flatC (Jvm.Cond.and given_1 narrow_1), c.before args s = true) : ∀ i, i < 34 → s_P args s A (s_tm i) i := fun i hi => by
  match i, hi with
  | 0, _ => exact st_0 hA hs
  | 1, _ => exact st_1 hA hs
  | 2, _ => exact st_2 hA hs
  | 3, _ => exact st_3 hA hs
  | 4, _ => exact st_4 hA hs
  | 5, _ => exact st_5 hA hs
  | 6, _ => exact st_6 hA hs
  | 7, _ => exact st_7 hA hs
  | 8, _ => exact st_8 hA hs
  | 9, _ => exact st_9 hA hs
  | 10, _ => exact st_10 hA hs
  | 11, _ => exact st_11 hA hs
  | 12, _ => exact st_12 hA hs
  | 13, _ => exact st_13 hA hs
  | 14, _ => exact st_14 hA hs
  | 15, _ => exact st_15 hA hs
  | 16, _ => exact st_16 hA hs
  | 17, _ => exact st_17 hA hs
  | 18, _ => exact st_18 hA hs
  | 19, _ => exact st_19 hA hs
  | 20, _ => exact st_20 hA hs
  | 21, _ => exact st_21 hA hs
  | 22, _ => exact st_22 hA hs
  | 23, _ => exact st_23 hA hs
  | 24, _ => exact st_24 hA hs
  | 25, _ => exact st_25 hA hs
  | 26, _ => exact st_26 hA hs
  | 27, _ => exact st_27 hA hs
  | 28, _ => exact st_28 hA hs
  | 29, _ => exact st_29 hA hs
  | 30, _ => exact st_30 hA hs
  | 31, _ => exact st_31 hA hs
  | 32, _ => exact st_32 hA hs
  | 33, _ => exact st_33 hA hs
  | i + 34, hi => omega
end SSTR
