/-! ONE INSTRUCTION, without the heap: one state behind it -/
abbrev kOw : Type := List (Nat × Nat × Nat × Nat) × List (Nat × Int) × List (Nat × Int) × List (Nat × Nat) × List (Nat × Nat × Nat × Nat × Nat)
def kfnd {α : Type} (l : List (Nat × α)) (i : Nat) : Option α := match l with
  | [] => none
  | q :: t => match Nat.beq q.1 i with
    | true => some q.2
    | false => kfnd t i
theorem kfnd_mem {α : Type} : ∀ {l : List (Nat × α)} {i : Nat} {v : α}, kfnd l i = some v → (i, v) ∈ l
  | [], i, v, h => by cases h
  | q :: t, i, v, h => by
    unfold kfnd at h
    cases h1 : Nat.beq q.1 i with
    | false => rw [h1] at h; exact List.mem_cons_of_mem _ (kfnd_mem h)
    | true =>
      rw [h1] at h
      have e1 := Nat.beq_eq.mp h1
      have e3 : q.2 = v := Option.some.inj h
      subst e1; subst e3
      exact List.mem_cons_self
def kpsh (S : kS) (v : kV) (st : List kV) : kS := (S.1, S.2.1, S.2.2.1, v :: st, S.2.2.2.2)
/-- an answer of arithmetic onto the stack -/
def kpres (S : kS) (mk : kL → kV) (r : kRes) (st : List kV) : kS := match r with
  | .inl f => kpsh S (mk f) st
  | .inr q => match kz (q.2 - q.1) with
    | true => kpsh S (mk (kcst q.1)) st
    | false => kpsh (kpush S q) (mk (ksym S.1.length)) st
def klong (v : kV) : Bool := match v with
  | .inr (.inl _) => true
  | _ => false
def kput1 (l : List (Nat × kV)) (i : Nat) (v : kV) : List (Nat × kV) := (i, v) :: l.filter (fun q => !(q.1 == i) && !(q.1 + 1 == i && klong q.2))
def kput2 (l : List (Nat × kV)) (i : Nat) (v : kV) : List (Nat × kV) := (i, v) :: l.filter (fun q => !(q.1 == i) && (!(q.1 == i + 1) && !(q.1 + 1 == i && klong q.2)))
def ksloc (S : kS) (l : List (Nat × kV)) (st : List kV) : kS := (S.1, S.2.1, l, st, S.2.2.2.2)
def kin (n lo hi : Int) : Bool := match knn (n - lo) with
  | true => knn (hi - n)
  | false => false
def kload1 (S : kS) (i : Nat) (c : Nat) : Option kS := match klocv S.2.2.1 i with
  | some (.inl f) => match c with
    | 0 => some (kpsh S (.inl f) S.2.2.2.1)
    | _ => none
  | some (.inr (.inl f)) => match c with
    | 1 => some (kpsh S (.inr (.inl f)) S.2.2.2.1)
    | _ => none
  | some (.inr (.inr (.inl r))) => match c with
    | 2 => some (kpsh S (.inr (.inr (.inl r))) S.2.2.2.1)
    | _ => none
  | _ => none
def kstor1 (S : kS) (nL i : Nat) (c : Nat) : Option kS := match S.2.2.2.1 with
  | .inl f :: st => match c with
    | 0 => match Nat.blt i nL with
      | true => some (ksloc S (kput1 S.2.2.1 i (.inl f)) st)
      | false => none
    | _ => none
  | .inr (.inl f) :: st => match c with
    | 1 => match Nat.blt (i + 1) nL with
      | true => some (ksloc S (kput2 S.2.2.1 i (.inr (.inl f))) st)
      | false => none
    | _ => none
  | .inr (.inr (.inl r)) :: st => match c with
    | 2 => match Nat.blt i nL with
      | true => some (ksloc S (kput1 S.2.2.1 i (.inr (.inr (.inl r)))) st)
      | false => none
    | _ => none
  | _ => none
section KS1
variable {D : va_G} {cA : Nat → ClassId} {tt : List kT} {Ty : Nat → Nat → Prop} {env : List Int} {ren : List Nat} {S : kS} {H : Heap} {lv : List (Nat × Value)} {st : List Value}
theorem kpsh_ok {v : kV} {x : Value} {sa : List kV} {sc : List Value} (h : kst D cA tt Ty env ren S H lv st) (hv : kvok env ren v x) (hs : kStk env ren sa sc) : kst D cA tt Ty env ren (kpsh S v sa) H lv (x :: sc) := ⟨h.1, h.2.1, h.2.2.1, h.2.2.2.1, ⟨hv, hs⟩, h.2.2.2.2.2⟩
theorem kpres_i {r : kRes} {n : Int32} {sa : List kV} {sc : List Value} (h : kst D cA tt Ty env ren S H lv st) (hs : kStk env ren sa sc) (hr : kresok env r n.toInt) : ∃ x u, kst D cA tt Ty (env ++ x) (ren ++ u) (kpres S (fun f => .inl f) r sa) H lv (.int n :: sc) := by
  unfold kpres
  match r, hr with
  | .inl f, hr => exact ⟨[], [], by rw [List.append_nil, List.append_nil]; exact kpsh_ok h ⟨n, rfl, hr⟩ hs⟩
  | .inr q, hr =>
    dsimp only
    cases hz : kz (q.2 - q.1) with
    | true =>
      have e := kz_iff.mp hz
      have e2 : kev env (kcst q.1) = some n.toInt := by
        rw [kcst_ev]
        congr 1
        have := hr.1
        have := hr.2
        omega
      exact ⟨[], [], by rw [List.append_nil, List.append_nil]; exact kpsh_ok h ⟨n, rfl, e2⟩ hs⟩
    | false =>
      obtain ⟨g1, g2⟩ := kpush_ok (q := q) h hr.1 hr.2
      exact ⟨[n.toInt], [], kpsh_ok g1 ⟨n, rfl, g2⟩ (kStk_ext hs)⟩
theorem kpres_l {r : kRes} {n : Int64} {sa : List kV} {sc : List Value} (h : kst D cA tt Ty env ren S H lv st) (hs : kStk env ren sa sc) (hr : kresok env r n.toInt) : ∃ x u, kst D cA tt Ty (env ++ x) (ren ++ u) (kpres S (fun f => .inr (.inl f)) r sa) H lv (.long n :: sc) := by
  unfold kpres
  match r, hr with
  | .inl f, hr => exact ⟨[], [], by rw [List.append_nil, List.append_nil]; exact kpsh_ok h ⟨n, rfl, hr⟩ hs⟩
  | .inr q, hr =>
    dsimp only
    cases hz : kz (q.2 - q.1) with
    | true =>
      have e := kz_iff.mp hz
      have e2 : kev env (kcst q.1) = some n.toInt := by
        rw [kcst_ev]
        congr 1
        have := hr.1
        have := hr.2
        omega
      exact ⟨[], [], by rw [List.append_nil, List.append_nil]; exact kpsh_ok h ⟨n, rfl, e2⟩ hs⟩
    | false =>
      obtain ⟨g1, g2⟩ := kpush_ok (q := q) h hr.1 hr.2
      exact ⟨[n.toInt], [], kpsh_ok g1 ⟨n, rfl, g2⟩ (kStk_ext hs)⟩
theorem klong_ok {v : kV} {x : Value} (h : kvok env ren v x) : klong v = (x.category == 2) := by
  match v, h with
  | .inl f, ⟨n, e, _⟩ => subst e; rfl
  | .inr (.inl f), ⟨n, e, _⟩ => subst e; rfl
  | .inr (.inr (.inl f)), ⟨n, e, _⟩ => subst e; rfl
  | .inr (.inr (.inr f)), ⟨n, _, _, e, _⟩ => subst e; rfl
theorem kLoc_filter {pa : Nat × kV → Bool} {pb : Nat × Value → Bool} (hp : ∀ i v x, kvok env ren v x → pa (i, v) = pb (i, x)) : ∀ {l : List (Nat × kV)} {m : List (Nat × Value)}, kLoc env ren l m → kLoc env ren (l.filter pa) (m.filter pb)
  | [], [], _ => trivial
  | a :: l, [], h => h.elim
  | [], _ :: _, h => h.elim
  | a :: l, b :: m, h => by
    obtain ⟨a1, a2⟩ := a
    obtain ⟨b1, b2⟩ := b
    have e1 : a1 = b1 := h.1
    subst e1
    have e := hp a1 a2 b2 h.2.1
    have ih := kLoc_filter hp h.2.2
    cases hb : pb (a1, b2) with
    | true =>
      rw [List.filter_cons_of_pos (by rw [e]; exact hb), List.filter_cons_of_pos hb]
      exact ⟨rfl, h.2.1, ih⟩
    | false =>
      rw [List.filter_cons_of_neg (by rw [e, hb]; decide), List.filter_cons_of_neg (by rw [hb]; decide)]
      exact ih
theorem kput1_ok {l : List (Nat × kV)} {m : List (Nat × Value)} {i : Nat} {v : kV} {x : Value} (h : kLoc env ren l m) (hv : kvok env ren v x) : kLoc env ren (kput1 l i v) ((i, x) :: m.filter (fun q => !(q.1 == i) && !(q.1 + 1 == i && q.2.category == 2))) :=
  ⟨rfl, hv, kLoc_filter (fun j w y hw => by rw [klong_ok hw]) h⟩
theorem kput2_ok {l : List (Nat × kV)} {m : List (Nat × Value)} {i : Nat} {v : kV} {x : Value} (h : kLoc env ren l m) (hv : kvok env ren v x) : kLoc env ren (kput2 l i v) ((i, x) :: m.filter (fun q => !(q.1 == i) && (!(q.1 == i + 1) && !(q.1 + 1 == i && q.2.category == 2)))) :=
  ⟨rfl, hv, kLoc_filter (fun j w y hw => by rw [klong_ok hw]) h⟩
end KS1
/-- one instruction, one state behind it, how long it is -/
def kstep1 (ow : kOw) (nL : Nat) (ins : Instr) (S : kS) : Option kS := match ins with
  | .iconst n => match kin n (-2147483648) 2147483647 with
    | true => some (kpsh S (.inl (kcst n)) S.2.2.2.1)
    | false => none
  | .bipush n => match kin n (-128) 127 with
    | true => some (kpsh S (.inl (kcst n)) S.2.2.2.1)
    | false => none
  | .sipush n => match kin n (-32768) 32767 with
    | true => some (kpsh S (.inl (kcst n)) S.2.2.2.1)
    | false => none
  | .lconst n => some (kpsh S (.inr (.inl (kcst (Int.ofNat n.val)))) S.2.2.2.1)
  | .ldc i => match kfnd ow.2.1 i with
    | some n => some (kpsh S (.inl (kcst n)) S.2.2.2.1)
    | none => match kfnd ow.2.2.2.1 i with
      | some t => some (kpsh (kpushR S t) (.inr (.inr (.inl S.2.1.length))) S.2.2.2.1)
      | none => none
  | .ldc_w i => match kfnd ow.2.1 i with
    | some n => some (kpsh S (.inl (kcst n)) S.2.2.2.1)
    | none => none
  | .ldc2_w i => match kfnd ow.2.2.1 i with
    | some n => some (kpsh S (.inr (.inl (kcst n))) S.2.2.2.1)
    | none => none
  | .iload_n k => kload1 S k.val 0
  | .iload i => kload1 S i 0
  | .lload_n k => kload1 S k.val 1
  | .lload i => kload1 S i 1
  | .aload_n k => kload1 S k.val 2
  | .aload i => kload1 S i 2
  | .istore_n k => kstor1 S nL k.val 0
  | .istore i => kstor1 S nL i 0
  | .lstore_n k => kstor1 S nL k.val 1
  | .lstore i => kstor1 S nL i 1
  | .astore_n k => kstor1 S nL k.val 2
  | .astore i => kstor1 S nL i 2
  | .iinc i n => match klocv S.2.2.1 i with
    | some (.inl f) => match Nat.blt i nL with
      | true => match kin n (-2147483648) 2147483647 with
        | true => match kri S (kofs f n) k32 with
          | .inl g => some (ksloc S (kput1 S.2.2.1 i (.inl g)) S.2.2.2.1)
          | .inr q => some (ksloc (kpush S q) (kput1 S.2.2.1 i (.inl (ksym S.1.length))) S.2.2.2.1)
        | false => none
      | false => none
    | _ => none
  | .dup => match S.2.2.2.1 with
    | v :: st => match klong v with
      | false => some (kpsh S v (v :: st))
      | true => none
    | _ => none
  | .dup2 => match S.2.2.2.1 with
    | v :: w :: st => match klong v with
      | true => some (kpsh S v (v :: w :: st))
      | false => match klong w with
        | false => some (ksloc S S.2.2.1 (v :: w :: v :: w :: st))
        | true => none
    | [v] => match klong v with
      | true => some (kpsh S v [v])
      | false => none
    | _ => none
  | .pop => match S.2.2.2.1 with
    | v :: st => match klong v with
      | false => some (ksloc S S.2.2.1 st)
      | true => none
    | _ => none
  | .pop2 => match S.2.2.2.1 with
    | v :: st => match klong v with
      | true => some (ksloc S S.2.2.1 st)
      | false => none
    | _ => none
  | .ineg => match S.2.2.2.1 with
    | .inl f :: st => some (kpres S (fun g => .inl g) (kri S (kneg f) k32) st)
    | _ => none
  | .i2l => match S.2.2.2.1 with
    | .inl f :: st => some (kpsh S (.inr (.inl f)) st)
    | _ => none
  | .l2i => match S.2.2.2.1 with
    | .inr (.inl f) :: st => some (kpres S (fun g => .inl g) (kri S f k32) st)
    | _ => none
  | .i2b => match S.2.2.2.1 with
    | .inl f :: st => some (kpres S (fun g => .inl g) (kri S f (-128, 127)) st)
    | _ => none
  | .i2s => match S.2.2.2.1 with
    | .inl f :: st => some (kpres S (fun g => .inl g) (kri S f (-32768, 32767)) st)
    | _ => none
  | .lcmp => match S.2.2.2.1 with
    | .inr (.inl g) :: .inr (.inl f) :: st => some (kpsh S (.inr (.inr (.inr (f, g)))) st)
    | _ => none
  | .lshl => match S.2.2.2.1 with
    | .inl _ :: .inr (.inl _) :: st => some (kpres S (fun g => .inr (.inl g)) (.inr k64) st)
    | _ => none
  | .lshr => match S.2.2.2.1 with
    | .inl _ :: .inr (.inl _) :: st => some (kpres S (fun g => .inr (.inl g)) (.inr k64) st)
    | _ => none
  | _ => match S.2.2.2.1 with
    | .inl g :: .inl f :: st => match kib S f g ins with
      | some r => some (kpres S (fun g => .inl g) r st)
      | none => none
    | .inr (.inl g) :: .inr (.inl f) :: st => match klo S f g ins with
      | some r => some (kpres S (fun g => .inr (.inl g)) r st)
      | none => none
    | _ => none
def kln (ins : Instr) : Nat := match ins with
  | .bipush _ => 2
  | .sipush _ => 3
  | .ldc _ => 2
  | .ldc_w _ => 3
  | .ldc2_w _ => 3
  | .iload _ => 2
  | .lload _ => 2
  | .aload _ => 2
  | .istore _ => 2
  | .lstore _ => 2
  | .astore _ => 2
  | .iinc _ _ => 3
  | .ifCond _ _ => 3
  | .if_icmp _ _ => 3
  | .goto _ => 3
  | .getfield _ => 3
  | .putfield _ => 3
  | .invokevirtual _ => 3
  | .invokestatic _ => 3
  | .invokespecial _ => 3
  | _ => 1
