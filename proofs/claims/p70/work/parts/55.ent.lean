/-! TEMPLATES: a state over symbols of its own, and where each symbol is found -/
abbrev kB : Type := Nat × Nat × kL × Int × Int
abbrev kTm : Type := kS × List kB
def ksubT (sg : List kL) : List (Nat × Int) → Option kL
  | [] => some ([], 0)
  | q :: t => match sg[q.1]?, ksubT sg t with
    | some g, some r => some (kadd (ksc q.2 g) r)
    | _, _ => none
def ksubst (sg : List kL) (f : kL) : Option kL := match ksubT sg f.1 with
  | some r => some (kofs r f.2)
  | none => none
/-- the forms sg have the values zs -/
def kSg (env : List Int) : List kL → List Int → Prop
  | [], [] => True
  | g :: l, z :: m => kev env g = some z ∧ kSg env l m
  | _, _ => False
theorem kSg_at {env : List Int} : ∀ {l : List kL} {m : List Int} {k : Nat} {g : kL}, kSg env l m → l[k]? = some g → ∃ z, m[k]? = some z ∧ kev env g = some z
  | [], _, k, g, _, h => by simp at h
  | a :: l, [], k, g, h, _ => h.elim
  | a :: l, z :: m, 0, g, h, hk => by
    have e : a = g := by simpa using hk
    subst e
    exact ⟨z, rfl, h.1⟩
  | a :: l, z :: m, k + 1, g, h, hk => by
    obtain ⟨w, h1, h2⟩ := kSg_at (k := k) (g := g) h.2 (by simpa using hk)
    exact ⟨w, by simpa using h1, h2⟩
theorem kSg_ext {env e : List Int} : ∀ {l : List kL} {m : List Int}, kSg env l m → kSg (env ++ e) l m
  | [], [], _ => trivial
  | a :: l, [], h => h.elim
  | [], _ :: _, h => h.elim
  | a :: l, z :: m, h => ⟨kev_ext h.1, kSg_ext h.2⟩
theorem kSg_push {env : List Int} {g : kL} {z : Int} (hg : kev env g = some z) : ∀ {l : List kL} {m : List Int}, kSg env l m → kSg env (l ++ [g]) (m ++ [z])
  | [], [], _ => ⟨hg, trivial⟩
  | a :: l, [], h => h.elim
  | [], _ :: _, h => h.elim
  | a :: l, w :: m, h => ⟨h.1, kSg_push hg h.2⟩
theorem kSg_len {env : List Int} : ∀ {l : List kL} {m : List Int}, kSg env l m → l.length = m.length
  | [], [], _ => rfl
  | a :: l, [], h => h.elim
  | [], _ :: _, h => h.elim
  | a :: l, z :: m, h => by simp [kSg_len h.2]
theorem ksubT_ok {env zs : List Int} {sg : List kL} (hs : kSg env sg zs) : ∀ {l : List (Nat × Int)} {r : kL}, ksubT sg l = some r → ∃ z, kevT zs l = some z ∧ kev env r = some z
  | [], r, h => by
    obtain rfl := Option.some.inj h
    exact ⟨0, rfl, rfl⟩
  | q :: t, r, h => by
    unfold ksubT at h
    cases h1 : sg[q.1]? with
    | none => rw [h1] at h; simp at h
    | some g =>
      cases h2 : ksubT sg t with
      | none => rw [h1, h2] at h; simp at h
      | some r' =>
        rw [h1, h2] at h
        obtain rfl := Option.some.inj h
        obtain ⟨w, e1, e2⟩ := kSg_at hs h1
        obtain ⟨y, e3, e4⟩ := ksubT_ok hs h2
        exact ⟨_, kevT_mk e1 e3, kadd_ev (ksc_ev e2) e4⟩
theorem ksubst_ok {env zs : List Int} {sg : List kL} {f r : kL} (hs : kSg env sg zs) (h : ksubst sg f = some r) : ∃ z, kev zs f = some z ∧ kev env r = some z := by
  unfold ksubst at h
  cases h1 : ksubT sg f.1 with
  | none => rw [h1] at h; cases h
  | some r' =>
    rw [h1] at h
    obtain rfl := Option.some.inj h
    obtain ⟨z, e1, e2⟩ := ksubT_ok hs h1
    exact ⟨_, kev_mk e1, kofs_ev e2⟩
theorem ksubst_gh {sg : List kL} {f r : kL} (h : ksubst sg f = some r) (hg : kghx f = true) : r = kcst 5000 := by
  have e := kLeq_eq hg
  subst e
  exact (Option.some.inj h).symm
/-- references: sr picks out of ren -/
def kSr (ren : List Nat) : List Nat → List Nat → Prop
  | [], [] => True
  | k :: l, a :: m => ren[k]? = some a ∧ kSr ren l m
  | _, _ => False
theorem kSr_at {ren : List Nat} : ∀ {l m : List Nat} {k g : Nat}, kSr ren l m → l[k]? = some g → ∃ z, m[k]? = some z ∧ ren[g]? = some z
  | [], _, k, g, _, h => by simp at h
  | a :: l, [], k, g, h, _ => h.elim
  | a :: l, z :: m, 0, g, h, hk => by
    have e : a = g := by simpa using hk
    subst e
    exact ⟨z, rfl, h.1⟩
  | a :: l, z :: m, k + 1, g, h, hk => by
    obtain ⟨w, h1, h2⟩ := kSr_at (k := k) (g := g) h.2 (by simpa using hk)
    exact ⟨w, by simpa using h1, h2⟩
theorem kSr_ext {ren u : List Nat} : ∀ {l m : List Nat}, kSr ren l m → kSr (ren ++ u) l m
  | [], [], _ => trivial
  | a :: l, [], h => h.elim
  | [], _ :: _, h => h.elim
  | a :: l, z :: m, h => ⟨kget_ext h.1, kSr_ext h.2⟩
theorem kSr_push {ren : List Nat} {k a : Nat} (hg : ren[k]? = some a) : ∀ {l m : List Nat}, kSr ren l m → kSr ren (l ++ [k]) (m ++ [a])
  | [], [], _ => ⟨hg, trivial⟩
  | a :: l, [], h => h.elim
  | [], _ :: _, h => h.elim
  | a :: l, w :: m, h => ⟨h.1, kSr_push hg h.2⟩
def ksubV (sg : List kL) (sr : List Nat) (v : kV) : Option kV := match v with
  | .inl f => match ksubst sg f with
    | some g => some (.inl g)
    | none => none
  | .inr (.inl f) => match ksubst sg f with
    | some g => some (.inr (.inl g))
    | none => none
  | .inr (.inr (.inl k)) => match sr[k]? with
    | some j => some (.inr (.inr (.inl j)))
    | none => none
  | .inr (.inr (.inr _)) => none
/-- over the template's symbols and over the state's: the same values -/
theorem ksubV_ok {env zs : List Int} {ren as : List Nat} {sg : List kL} {sr : List Nat} {v w : kV} {x : Value} (hs : kSg env sg zs) (hr : kSr ren sr as) (h : ksubV sg sr v = some w) : kvok zs as v x ↔ kvok env ren w x := by
  match v, h with
  | .inl f, h =>
    unfold ksubV at h
    cases h1 : ksubst sg f with
    | none => simp [h1] at h
    | some g =>
      simp only [h1] at h
      obtain rfl := Option.some.inj h
      obtain ⟨z, e1, e2⟩ := ksubst_ok hs h1
      constructor
      · rintro ⟨n, h2, h3⟩
        exact ⟨n, h2, by rw [e2, ← e1]; exact h3⟩
      · rintro ⟨n, h2, h3⟩
        exact ⟨n, h2, by rw [e1, ← e2]; exact h3⟩
  | .inr (.inl f), h =>
    unfold ksubV at h
    cases h1 : ksubst sg f with
    | none => simp [h1] at h
    | some g =>
      simp only [h1] at h
      obtain rfl := Option.some.inj h
      obtain ⟨z, e1, e2⟩ := ksubst_ok hs h1
      constructor
      · rintro ⟨n, h2, h3⟩
        exact ⟨n, h2, by rw [e2, ← e1]; exact h3⟩
      · rintro ⟨n, h2, h3⟩
        exact ⟨n, h2, by rw [e1, ← e2]; exact h3⟩
  | .inr (.inr (.inl k)), h =>
    unfold ksubV at h
    cases h1 : sr[k]? with
    | none => simp [h1] at h
    | some j =>
      simp only [h1] at h
      obtain rfl := Option.some.inj h
      obtain ⟨z, e1, e2⟩ := kSr_at hr h1
      constructor
      · rintro ⟨n, h2, h3⟩
        exact ⟨n, h2, by rw [e2, ← e1]; exact h3⟩
      · rintro ⟨n, h2, h3⟩
        exact ⟨n, h2, by rw [e1, ← e2]; exact h3⟩
  | .inr (.inr (.inr _)), h => cases h
/-- equal values -/
def kfeq (S : kS) (f g : kL) : Bool := match kLeq f g with
  | true => true
  | false => match kgeS S (ksub f g) with
    | true => kgeS S (ksub g f)
    | false => false
def kveq (S : kS) (v w : kV) : Bool := match v, w with
  | .inl f, .inl g => kfeq S f g
  | .inr (.inl f), .inr (.inl g) => kfeq S f g
  | .inr (.inr (.inl k)), .inr (.inr (.inl j)) => Nat.beq k j
  | _, _ => false
/-- the value of a place; a fact that isn't there is loaded -/
def klocv (l : List (Nat × kV)) (i : Nat) : Option kV := match l with
  | [] => none
  | q :: t => match Nat.beq q.1 i with
    | true => some q.2
    | false => klocv t i
/-- what the index 5000 stands for -/
def kplaceG (tt : List kT) (S : kS) (r : Nat) : Option (kS × kV) := match kfind0 S.2.2.2.2.1 r (kcst 5000) with
  | some v => some (S, v)
  | none => match S.2.1[r]? with
    | none => none
    | some t => match Nat.beq t 36 with
      | false => none
      | true => match tt[36]?, tt[40]? with
        | some T, some _ => match kspR S (kcst 4) T.2.2.1 with
          | some (.inr (.inr t')) => match Nat.beq t' 40 with
            | true => some (kfadd (kpush S (0, 4)) (r, kcst 5000, .inl (ksym S.1.length)), .inl (ksym S.1.length))
            | false => none
          | _ => none
        | _, _ => none
def kplace (tt : List kT) (S : kS) (sg : List kL) (sr : List Nat) (b : kB) : Option (kS × kV) := match b.1 with
  | 0 => match klocv S.2.2.1 b.2.1 with
    | some v => some (S, v)
    | none => none
  | 1 => match S.2.2.2.1[b.2.1]? with
    | some v => some (S, v)
    | none => none
  | _ => match Nat.beq b.1 3 with
    | true => match sr[b.2.1]? with
      | some r => kplaceG tt S r
      | none => none
    | false => match sr[b.2.1]?, ksubst sg b.2.2.1 with
      | some r, some x => match kload tt S r x with
        | some [q] => some q
        | _ => none
      | _, _ => none
def kbind1 (tt : List kT) (S : kS) (sg : List kL) (sr : List Nat) (b : kB) : Option (kS × List kL × List Nat) := match kplace tt S sg sr b with
  | some (S', .inl f) => match kdv b.2.2.2.1 (kofs f (-b.2.2.2.2)) with
    | some g => some (S', sg ++ [g], sr)
    | none => none
  | some (S', .inr (.inl f)) => match kdv b.2.2.2.1 (kofs f (-b.2.2.2.2)) with
    | some g => some (S', sg ++ [g], sr)
    | none => none
  | some (S', .inr (.inr (.inl r))) => some (S', sg, sr ++ [r])
  | _ => none
def kbind (tt : List kT) : List kB → kS → List kL → List Nat → Option (kS × List kL × List Nat)
  | [], S, sg, sr => some (S, sg, sr)
  | b :: t, S, sg, sr => match kbind1 tt S sg sr b with
    | some q => kbind tt t q.1 q.2.1 q.2.2
    | none => none
def kchI (S : kS) : kQ → List kL → Bool
  | [], [] => true
  | q :: t, g :: u => match kbt S g q.1 q.2 with
    | true => kchI S t u
    | false => false
  | _, _ => false
def kchR (S : kS) : List Nat → List Nat → Bool
  | [], [] => true
  | t :: l, k :: u => match S.2.1[k]? with
    | some t' => match Nat.beq t' t with
      | true => kchR S l u
      | false => false
    | none => false
  | _, _ => false
def kchV (S : kS) (sg : List kL) (sr : List Nat) (v w : kV) : Bool := match ksubV sg sr v with
  | some v' => kveq S v' w
  | none => false
def kchL (S : kS) (sg : List kL) (sr : List Nat) : List (Nat × kV) → Bool
  | [] => true
  | q :: t => match klocv S.2.2.1 q.1 with
    | some w => match kchV S sg sr q.2 w with
      | true => kchL S sg sr t
      | false => false
    | none => false
def kchS (S : kS) (sg : List kL) (sr : List Nat) : List kV → List kV → Bool
  | [], [] => true
  | v :: t, w :: u => match kchV S sg sr v w with
    | true => kchS S sg sr t u
    | false => false
  | _, _ => false
def kfindT (fa : List kF) (g : kL) (r : Nat) (x : kL) : Option kV := match kghx g with
  | true => kfind0 fa r x
  | false => kfind fa r x
def kchF (S : kS) (sg : List kL) (sr : List Nat) : List kF → Bool
  | [] => true
  | q :: t => match sr[q.1]?, ksubst sg q.2.1 with
    | some r, some x => match kfindT S.2.2.2.2.1 q.2.1 r x with
      | some w => match kchV S sg sr q.2.2 w with
        | true => kchF S sg sr t
        | false => false
      | none => false
    | _, _ => false
def kchC (S : kS) (sg : List kL) : List kL → Bool
  | [] => true
  | f :: t => match ksubst sg f with
    | some g => match kgeS S g with
      | true => kchC S sg t
      | false => false
    | none => false
/-- the state is as the template says, its symbols being sg, sr -/
def kch (S : kS) (sg : List kL) (sr : List Nat) (T : kS) : Bool := match kchI S T.1 sg with
  | true => match kchR S T.2.1 sr with
    | true => match kchL S sg sr T.2.2.1 with
      | true => match kchS S sg sr T.2.2.2.1 S.2.2.2.1 with
        | true => match kchF S sg sr T.2.2.2.2.1 with
          | true => kchC S sg T.2.2.2.2.2
          | false => false
        | false => false
      | false => false
    | false => false
  | false => false
section KENT
variable {D : va_G} {cA : Nat → ClassId} {tt : List kT} {Ty : Nat → Nat → Prop} {env : List Int} {ren : List Nat} {S : kS} {H : Heap} {lv : List (Nat × Value)} {st : List Value}
theorem kfeq_ok {f g : kL} {x y : Int} (h : kst D cA tt Ty env ren S H lv st) (hf : kev env f = some x) (hg : kev env g = some y) (he : kfeq S f g = true) : x = y := by
  unfold kfeq at he
  cases h1 : kLeq f g with
  | true =>
    have e := kLeq_eq h1
    subst e
    exact Option.some.inj (hf.symm.trans hg)
  | false =>
    simp only [h1] at he
    cases h2 : kgeS S (ksub f g) with
    | false => simp [h2] at he
    | true =>
      simp only [h2] at he
      have a := kgeS_ok h (ksub_ev hf hg) h2
      have b := kgeS_ok h (ksub_ev hg hf) he
      omega
theorem kveq_ok {v w : kV} {x : Value} (h : kst D cA tt Ty env ren S H lv st) (hv : ∃ y, kvok env ren v y) (hw : kvok env ren w x) (he : kveq S v w = true) : kvok env ren v x := by
  obtain ⟨y, hv⟩ := hv
  match v, w, hv, hw, he with
  | .inl f, .inl g, ⟨n, e1, e2⟩, ⟨n', e3, e4⟩, he => exact ⟨n', e3, by rw [e2, kfeq_ok h e2 e4 he]⟩
  | .inr (.inl f), .inr (.inl g), ⟨n, e1, e2⟩, ⟨n', e3, e4⟩, he => exact ⟨n', e3, by rw [e2, kfeq_ok h e2 e4 he]⟩
  | .inr (.inr (.inl k)), .inr (.inr (.inl j)), ⟨n, e1, e2⟩, ⟨n', e3, e4⟩, he =>
    have e : k = j := Nat.beq_eq.mp he
    subst e
    exact ⟨n', e3, e4⟩
  | .inl _, .inr (.inl _), _, _, he => cases he
  | .inl _, .inr (.inr (.inl _)), _, _, he => cases he
  | .inl _, .inr (.inr (.inr _)), _, _, he => cases he
  | .inr (.inl _), .inl _, _, _, he => cases he
  | .inr (.inl _), .inr (.inr (.inl _)), _, _, he => cases he
  | .inr (.inl _), .inr (.inr (.inr _)), _, _, he => cases he
  | .inr (.inr (.inl _)), .inl _, _, _, he => cases he
  | .inr (.inr (.inl _)), .inr (.inl _), _, _, he => cases he
  | .inr (.inr (.inl _)), .inr (.inr (.inr _)), _, _, he => cases he
  | .inr (.inr (.inr _)), .inl _, _, _, he => cases he
  | .inr (.inr (.inr _)), .inr (.inl _), _, _, he => cases he
  | .inr (.inr (.inr _)), .inr (.inr (.inl _)), _, _, he => cases he
  | .inr (.inr (.inr _)), .inr (.inr (.inr _)), _, _, he => cases he
end KENT
