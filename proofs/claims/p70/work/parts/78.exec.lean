/-! THE WALK OF A BODY -/
abbrev kCd : Type := List (Nat × Instr × Nat)
abbrev kCut : Type := Nat × kTm × kL
def kdrop (pc : Nat) : kCd → Option kCd
  | [] => none
  | q :: t => match Nat.beq q.1 pc with
    | true => some (q :: t)
    | false => kdrop pc t
def knext (code tl : kCd) (pc : Nat) : Option kCd := match tl with
  | q :: t => match Nat.beq q.1 pc with
    | true => some (q :: t)
    | false => kdrop pc code
  | [] => kdrop pc code
theorem kdrop_ok {pc : Nat} : ∀ {l r : kCd}, kdrop pc l = some r → (∀ q ∈ r, q ∈ l) ∧ ∃ ins len t, r = (pc, ins, len) :: t
  | [], r, h => by cases h
  | q :: t, r, h => by
    unfold kdrop at h
    cases hb : Nat.beq q.1 pc with
    | true =>
      simp only [hb] at h
      obtain rfl := Option.some.inj h
      have e := Nat.beq_eq.mp hb
      subst e
      exact ⟨fun _ h => h, q.2.1, q.2.2, t, rfl⟩
    | false =>
      simp only [hb] at h
      obtain ⟨h1, h2⟩ := kdrop_ok h
      exact ⟨fun p hp => List.mem_cons_of_mem _ (h1 p hp), h2⟩
theorem knext_ok {code tl r : kCd} {pc : Nat} (h : knext code tl pc = some r) (ht : ∀ q ∈ tl, q ∈ code) : (∀ q ∈ r, q ∈ code) ∧ ∃ ins len t, r = (pc, ins, len) :: t := by
  unfold knext at h
  split at h
  · rename_i q t
    split at h
    · rename_i hb
      obtain rfl := Option.some.inj h
      have e := Nat.beq_eq.mp hb
      subst e
      exact ⟨ht, q.2.1, q.2.2, t, rfl⟩
    · exact kdrop_ok h
  · exact kdrop_ok h
/-- at a cut: the state is as the template says, and the rank has fallen -/
def kcut (tt : List kT) (P : kS) (S : kS) (rb : Option kL) (T : kTm) (rk : kL) : Bool := match kbind tt T.2 S (ksyms 0 P.1) (krefs 0 P.2.1) with
  | some q => match kch q.1 q.2.1 q.2.2 T.1 with
    | true => match ksubst q.2.1 rk with
      | some g => match kgeS q.1 g with
        | true => match rb with
          | none => true
          | some f => kgeS q.1 (kofs (ksub f g) (-1))
        | false => false
      | none => false
    | false => false
  | none => false
/-- at a return: one of the cases holds -/
def kret1 (tt : List kT) (P : kS) (S : kS) (v : List (Nat × kV)) (q : kCs) : Bool := match kbind tt q.2.2.2.2.2 (S.1, S.2.1, v, [], S.2.2.2.2) (ksyms 0 P.1) (krefs 0 P.2.1) with
  | some r => kch r.1 r.2.1 r.2.2 (kcsT P q)
  | none => false
def kret (tt : List kT) (P : kS) (cs : List kCs) (rt : Option FieldType) (ins : Instr) (S : kS) : Bool := match ins, rt, S.2.2.2.1 with
  | .ireturn, some ty, [.inl f] => match kfixA S ty (.inl f) with
    | true => cs.any (fun q => match q.2.2.1 with
      | some _ => kret1 tt P S [(0, .inl f)] q
      | none => false)
    | false => false
  | .lreturn, some .long, [v] => match klong v with
    | true => cs.any (fun q => match q.2.2.1 with
      | some _ => kret1 tt P S [(0, v)] q
      | none => false)
    | false => false
  | .return_, none, [] => cs.any (kret1 tt P S [])
  | _, _, _ => false
def kgrp (ins : Instr) : Nat := match ins with
  | .goto _ => 1
  | .ifCond _ _ => 1
  | .if_icmp _ _ => 1
  | .tableswitch _ _ _ _ => 1
  | .getfield _ => 2
  | .putfield _ => 2
  | .iaload => 2
  | .baload => 2
  | .laload => 2
  | .aaload => 2
  | .iastore => 2
  | .bastore => 2
  | .lastore => 2
  | .invokevirtual _ => 3
  | .invokestatic _ => 3
  | .ireturn => 4
  | .lreturn => 4
  | .return_ => 4
  | _ => 0
def kistab (ins : Instr) : Bool := match ins with
  | .tableswitch _ _ _ _ => true
  | _ => false
def kgo (k : kCd → kS → Bool) (code tl : kCd) (pc : Nat) (S : kS) : Bool := match knext code tl pc with
  | some c => k c S
  | none => false
/-- what a body's walk needs: types of cells, of arrays, contracts, the pool, how many locals, what is wanted, the cases, the answer's type, what may be written, the depth -/
abbrev kEn : Type := List kT × List FieldType × List kCt × kOw × Nat × kS × List kCs × Option FieldType × kW × Nat
/-- the code, which contracts are called where, where is split, the cuts -/
abbrev kBd : Type := kCd × List (Nat × List Nat) × List (Nat × Nat × List Int) × List kCut
def kdo (E : kEn) (B : kBd) (k : kCd → kS → Bool) (q : Nat × Instr × Nat) (tl : kCd) (S : kS) : Bool := match kgrp q.2.1 with
  | 0 => match Nat.beq q.2.2 (kln q.2.1) with
    | true => match kstep1 E.2.2.2.1 E.2.2.2.2.1 q.2.1 S with
      | some S' => kgo k B.1 tl (q.1 + q.2.2) S'
      | none => false
    | false => false
  | 1 => match (match kistab q.2.1 with
      | true => true
      | false => Nat.beq q.2.2 3) with
    | true => match kbr q.1 q.2.1 S with
      | some L => L.all (fun w => kgo k B.1 tl w.1 w.2)
      | none => false
    | false => false
  | 2 => match Nat.beq q.2.2 (kln q.2.1) with
    | true => match kmemi E.1 E.2.1 E.2.2.2.1 E.2.2.2.2.2.2.2.2.1 q.2.1 S with
      | some L => L.all (fun S' => kgo k B.1 tl (q.1 + q.2.2) S')
      | none => false
    | false => false
  | 3 => match Nat.beq q.2.2 (kln q.2.1) with
    | true => match kinv E.1 E.2.1 E.2.2.1 E.2.2.2.1 B.2.1 E.2.2.2.2.2.2.2.2.1 E.2.2.2.2.2.2.2.2.2 q.1 q.2.1 S with
      | some L => L.all (fun S' => kgo k B.1 tl (q.1 + q.2.2) S')
      | none => false
    | false => false
  | _ => match Nat.beq q.2.2 1 with
    | true => kret E.1 E.2.2.2.2.2.1 E.2.2.2.2.2.2.1 E.2.2.2.2.2.2.2.1 q.2.1 S
    | false => false
def ksplit (f : kL) : List Int → kS → List kS
  | [], S => [S]
  | t :: ts, S => (match kasmS S (ksub (kcst t) f) with
    | some S1 => [S1]
    | none => []) ++ (match kasmS S (kofs f (-(t + 1))) with
    | some S2 => ksplit f ts S2
    | none => [])
def kexec (E : kEn) (B : kBd) (rb : Option kL) : Nat → Bool → kCd → kS → Bool
  | 0, _, _, _ => false
  | n + 1, b, cur, S => match cur with
    | [] => false
    | q :: tl => match (match b with
        | true => B.2.2.2.any (fun c => Nat.beq c.1 q.1)
        | false => false) with
      | true => B.2.2.2.any (fun c => match Nat.beq c.1 q.1 with
        | true => kcut E.1 E.2.2.2.2.2.1 S rb c.2.1 c.2.2
        | false => false)
      | false => match kfnd B.2.2.1 q.1 with
        | some w => match klocv S.2.2.1 w.1 with
          | some (.inl f) => (ksplit f w.2 S).all (fun S' => kdo E B (kexec E B rb n true) q tl S')
          | _ => false
        | none => kdo E B (kexec E B rb n true) q tl S
/-- a body is as its contract says: from its start, and from every cut -/
def kbody (E : kEn) (B : kBd) (n : Nat) : Bool := match kexec E B none n false B.1 E.2.2.2.2.2.1 with
  | true => B.2.2.2.all (fun c => match kdrop c.1 B.1 with
    | some cur => kexec E B (some c.2.2) n false cur c.2.1.1
    | none => false)
  | false => false
section KEX
variable {D : va_G} {cA : Nat → Nat} {tt : List kT} {Ty : Nat → Nat → Prop} {env : List Int} {ren : List Nat} {S : kS} {H : Heap} {lv : List (Nat × Value)} {st : List Value}
theorem ksplit_ok {f : kL} {z : Int} : ∀ {ts : List Int} {S : kS}, kst D cA tt Ty env ren S H lv st → kev env f = some z → ∃ S' ∈ ksplit f ts S, kst D cA tt Ty env ren S' H lv st
  | [], S, h, _ => ⟨S, List.mem_cons_self, h⟩
  | t :: ts, S, h, hf => by
    unfold ksplit
    by_cases hz : z ≤ t
    · obtain ⟨S1, g1, g2⟩ := kasmS_ok h (ksub_ev (kcst_ev (n := t)) hf) (by omega)
      rw [g1]
      exact ⟨S1, List.mem_append_left _ List.mem_cons_self, g2⟩
    · obtain ⟨S1, g1, g2⟩ := kasmS_ok h (kofs_ev (n := -(t + 1)) hf) (by omega)
      obtain ⟨S', g3, g4⟩ := ksplit_ok (ts := ts) g2 hf
      rw [g1]
      exact ⟨S', List.mem_append_right _ g3, g4⟩
/-- the contract's own symbols stand first -/
theorem ksyms_pre {q : kQ} {zs x : List Int} (h : q.length = zs.length) : kSg (zs ++ x) (ksyms 0 q) zs := by
  have := ksyms_ok (q := q) (e := zs) (pre := []) (l := []) (m := []) h trivial
  simp only [List.nil_append, List.length_nil] at this
  exact kSg_ext this
theorem krefs_pre {q : List Nat} {zs x : List Nat} (h : q.length = zs.length) : kSr (zs ++ x) (krefs 0 q) zs := by
  have := krefs_ok (q := q) (e := zs) (pre := []) (l := []) (m := []) h trivial
  simp only [List.nil_append, List.length_nil] at this
  exact kSr_ext this
end KEX
