/-! CONTRACTS. A case: symbols more (their intervals), references more (their types), the answer, facts, constraints, where the symbols are found.
A contract: the method's number, what it wants, where the symbols are found, its cases, what it writes, its depth -/
abbrev kCs : Type := kQ × List Nat × Option kV × List kF × List kL × List kB
abbrev kCt : Type := Nat × kS × List kB × List kCs × kW × Nat
def kcsT (P : kS) (q : kCs) : kS := (P.1 ++ q.1, P.2.1 ++ q.2.1, (match q.2.2.1 with
  | some v => [(0, v)]
  | none => []), [], q.2.2.2.1, q.2.2.2.2.1)
def kans (v : Option Value) : List (Nat × Value) := match v with
  | some x => [(0, x)]
  | none => []
/-- the locals of a call -/
def kcat (v : kV) (i : Nat) : Nat := match v with
  | .inr (.inl _) => i + 2
  | _ => i + 1
theorem kcat_ok {env : List Int} {ren : List Nat} {v : kV} {x : Value} {i : Nat} (h : kvok env ren v x) : kcat v i = (if x.category = 2 then i + 2 else i + 1) := by
  match v, h with
  | .inl f, ⟨n, e, _⟩ => subst e; rfl
  | .inr (.inl f), ⟨n, e, _⟩ => subst e; rfl
  | .inr (.inr (.inl f)), ⟨n, e, _⟩ => subst e; rfl
  | .inr (.inr (.inr f)), ⟨n, _, _, e, _⟩ => subst e; rfl
def klocs : Nat → List kV → List (Nat × kV)
  | _, [] => []
  | i, v :: vs => (i, v) :: klocs (kcat v i) vs
theorem klocs_ok {env : List Int} {ren : List Nat} : ∀ {avs : List kV} {vs : List Value} {i : Nat}, kStk env ren avs vs → kLoc env ren (klocs i avs) (lv_args i vs)
  | [], [], i, _ => trivial
  | [], _ :: _, i, h => h.elim
  | _ :: _, [], i, h => h.elim
  | v :: avs, x :: vs, i, h => by
    refine ⟨rfl, h.1, ?_⟩
    rw [kcat_ok h.1]
    exact klocs_ok h.2
/-- what stays behind a call that writes w -/
def kkeepX (w : kW) : Bool := w.all (fun p => match Nat.beq p.1 40 with
  | true => false
  | false => match Nat.beq p.1 36 with
    | false => true
    | true => match p.2 with
      | none => false
      | some j => !(Nat.beq j 4 || Nat.beq j 8 || Nat.beq j 9 || Nat.beq j 10 || Nat.beq j 12))
def kkeepM (S : kS) (w : kW) (q : kF) : Bool := match S.2.1[q.1]? with
  | some t => match Nat.blt t 1000 with
    | true => w.all (fun p => match Nat.beq p.1 t with
      | true => match p.2 with
        | none => false
        | some j => kneS S q.2.1 (kcst (Int.ofNat j))
      | false => true)
    | false => false
  | none => false
def kkeepW (S : kS) (w : kW) (q : kF) : Bool := match kghx q.2.1 with
  | true => kkeepX w
  | false => kkeepM S w q
def ksyms : Nat → kQ → List kL
  | _, [] => []
  | n, _ :: t => ksym n :: ksyms (n + 1) t
def krefs : Nat → List Nat → List Nat
  | _, [] => []
  | n, _ :: t => n :: krefs (n + 1) t
def kaddF (sg : List kL) (sr : List Nat) : List kF → List kF → List kF
  | [], fa => fa
  | q :: t, fa => match sr[q.1]?, ksubst sg q.2.1, ksubV sg sr q.2.2 with
    | some r, some x, some v => (r, x, v) :: kaddF sg sr t fa
    | _, _, _ => kaddF sg sr t fa
def kaddC (sg : List kL) : List kL → kS → Option kS
  | [], S => some S
  | f :: t, S => match ksubst sg f with
    | some g => match kasmS S g with
      | some S' => kaddC sg t S'
      | none => none
    | none => kaddC sg t S
/-- the state behind a call, by one case: none: it falls; some []: the case can't be -/
def kcase (lo : List (Nat × kV)) (rest : List kV) (S2 : kS) (sg : List kL) (sr : List Nat) (w : kW) (q : kCs) : Option (List kS) :=
  match q.2.2.1 with
  | none => match kaddC (sg ++ ksyms S2.1.length q.1) q.2.2.2.2.1 (S2.1 ++ q.1, S2.2.1 ++ q.2.1, lo, rest, kaddF (sg ++ ksyms S2.1.length q.1) (sr ++ krefs S2.2.1.length q.2.1) q.2.2.2.1 (S2.2.2.2.2.1.filter (kkeepW S2 w)), S2.2.2.2.2.2) with
    | some S' => some [S']
    | none => some []
  | some v => match ksubV (sg ++ ksyms S2.1.length q.1) (sr ++ krefs S2.2.1.length q.2.1) v with
    | none => none
    | some v' => match kaddC (sg ++ ksyms S2.1.length q.1) q.2.2.2.2.1 (S2.1 ++ q.1, S2.2.1 ++ q.2.1, lo, v' :: rest, kaddF (sg ++ ksyms S2.1.length q.1) (sr ++ krefs S2.2.1.length q.2.1) q.2.2.2.1 (S2.2.2.2.2.1.filter (kkeepW S2 w)), S2.2.2.2.2.2) with
      | some S' => some [S']
      | none => some []
def kcases (lo : List (Nat × kV)) (rest : List kV) (S2 : kS) (sg : List kL) (sr : List Nat) (w : kW) : List kCs → Option (List kS)
  | [] => some []
  | q :: t => match kcase lo rest S2 sg sr w q, kcases lo rest S2 sg sr w t with
    | some a, some b => some (a ++ b)
    | _, _ => none
/-- a call of a method by a contract -/
def kcall (tt : List kT) (S : kS) (avs rest : List kV) (C : kCt) : Option (List kS) := match kbind tt C.2.2.1 (S.1, S.2.1, klocs 0 avs, [], S.2.2.2.2) [] [] with
  | some q => match kch q.1 q.2.1 q.2.2 C.2.1 with
    | true => kcases S.2.2.1 rest q.1 q.2.1 q.2.2 C.2.2.2.2.1 C.2.2.2.1
    | false => none
  | none => none
section KCALL
variable {D : va_G} {cA : Nat → ClassId} {tt : List kT} {Ty : Nat → Nat → Prop} {env zs : List Int} {ren as : List Nat} {S : kS} {H H1 : Heap} {lv : List (Nat × Value)} {st : List Value} {sg : List kL} {sr : List Nat}
theorem ksyms_ok : ∀ {q : kQ} {e pre : List Int} {l : List kL} {m : List Int}, q.length = e.length → kSg (pre ++ e) l m → kSg (pre ++ e) (l ++ ksyms pre.length q) (m ++ e)
  | [], [], pre, l, m, _, h => by simpa [ksyms] using h
  | [], _ :: _, pre, l, m, hl, h => by simp at hl
  | _ :: _, [], pre, l, m, hl, h => by simp at hl
  | a :: q, z :: e, pre, l, m, hl, h => by
    have h1 : kSg (pre ++ z :: e) (l ++ [ksym pre.length]) (m ++ [z]) := kSg_push (ksym_ev (by simp)) h
    have e1 : pre ++ z :: e = (pre ++ [z]) ++ e := by simp
    have h2 := ksyms_ok (q := q) (e := e) (pre := pre ++ [z]) (l := l ++ [ksym pre.length]) (m := m ++ [z]) (by simpa using hl) (by rw [← e1]; exact h1)
    rw [← e1] at h2
    simpa [ksyms] using h2
theorem krefs_ok : ∀ {q : List Nat} {e pre : List Nat} {l m : List Nat}, q.length = e.length → kSr (pre ++ e) l m → kSr (pre ++ e) (l ++ krefs pre.length q) (m ++ e)
  | [], [], pre, l, m, _, h => by simpa [krefs] using h
  | [], _ :: _, pre, l, m, hl, h => by simp at hl
  | _ :: _, [], pre, l, m, hl, h => by simp at hl
  | a :: q, z :: e, pre, l, m, hl, h => by
    have h1 : kSr (pre ++ z :: e) (l ++ [pre.length]) (m ++ [z]) := kSr_push (by simp) h
    have e1 : pre ++ z :: e = (pre ++ [z]) ++ e := by simp
    have h2 := krefs_ok (q := q) (e := e) (pre := pre ++ [z]) (l := l ++ [pre.length]) (m := m ++ [z]) (by simpa using hl) (by rw [← e1]; exact h1)
    rw [← e1] at h2
    simpa [krefs] using h2
theorem kaddC_ok (hs : kSg env sg zs) : ∀ {l : List kL} {S : kS}, kst D cA tt Ty env ren S H lv st → kC zs l → ∃ S', kaddC sg l S = some S' ∧ kst D cA tt Ty env ren S' H lv st
  | [], S, h, _ => ⟨S, rfl, h⟩
  | f :: t, S, h, hc => by
    have hc' : kC zs t := fun g hg => hc g (List.mem_cons_of_mem _ hg)
    unfold kaddC
    cases h1 : ksubst sg f with
    | none => exact kaddC_ok hs h hc'
    | some g =>
      obtain ⟨z, e1, e2⟩ := ksubst_ok hs h1
      obtain ⟨z', e3, e4⟩ := hc f List.mem_cons_self
      have e : z' = z := Option.some.inj (e3.symm.trans e1)
      subst e
      obtain ⟨S', g1, g2⟩ := kasmS_ok h e2 e4
      simp only [g1]
      exact kaddC_ok hs g2 hc'
theorem kaddF_ok (hTy : kTyp tt Ty) (hs : kSg env sg zs) (hr : kSr ren sr as) : ∀ {l fa : List kF}, (∀ q ∈ l, kfok D cA tt Ty zs as H q) → (∀ q ∈ fa, kfok D cA tt Ty env ren H q) → ∀ q ∈ kaddF sg sr l fa, kfok D cA tt Ty env ren H q
  | [], fa, _, h => h
  | p :: t, fa, hl, h => by
    have ih := kaddF_ok hTy hs hr (l := t) (fa := fa) (fun q hq => hl q (List.mem_cons_of_mem _ hq)) h
    intro q hq
    unfold kaddF at hq
    split at hq
    · rename_i r x v h1 h2 h3
      rcases List.mem_cons.mp hq with rfl | hq
      · have hf := hl p List.mem_cons_self
        cases hgx : kghx p.2.1 with
        | true =>
          have ex := ksubst_gh h2 hgx
          subst ex
          unfold kfok at hf ⊢
          rw [hgx] at hf
          rw [show kghx (kcst 5000) = true from rfl]
          obtain ⟨a, b, T, Tt, V, Vt, f, f1, f2, f3, f4, f5, f6, f7, f8, f9, f10⟩ := hf
          obtain ⟨a', g1, g2⟩ := kSr_at hr h1
          have ea : a' = a := Option.some.inj (g1.symm.trans f1)
          subst ea
          rw [f9] at h3
          unfold ksubV at h3
          cases h4 : ksubst sg f with
          | none => simp [h4] at h3
          | some g =>
            simp only [h4] at h3
            obtain rfl := Option.some.inj h3
            obtain ⟨z, e1, e2⟩ := ksubst_ok hs h4
            exact ⟨a', b, T, Tt, V, Vt, g, g2, f2, f3, f4, f5, f6, f7, f8, rfl, by rw [e2, ← e1]; exact f10⟩
        | false =>
        obtain ⟨a, t', T, V, z, f1, f2, f3, f4, f5, f6, f7⟩ := kfok_N hf hgx
        obtain ⟨a', g1, g2⟩ := kSr_at hr h1
        have ea : a' = a := Option.some.inj (g1.symm.trans f1)
        subst ea
        obtain ⟨z', g3, g4⟩ := ksubst_ok hs h2
        have ez : z' = (z : Int) := Option.some.inj (g3.symm.trans f5)
        subst ez
        exact kfok_mk hTy ⟨a', t', T, V, z, g2, f2, f3, f4, g4, f6, (ksubV_ok hs hr h3).mp f7⟩
      · exact ih q hq
    · exact ih q hq
theorem kkeepW_ok {lo : Nat} {w : kW} {q : kF} (hTy : kTyp tt Ty) (h : kst D cA tt Ty env ren S H lv st) (hk : kkp D cA tt Ty w H H1) (hq : kfok D cA tt Ty env ren H q) (hw : kkeepW S w q = true) : kfok D cA tt Ty env ren H1 q := by
  unfold kkeepW at hw
  cases hgx : kghx q.2.1 with
  | true =>
    rw [hgx] at hw
    dsimp only at hw
    unfold kfok at hq ⊢
    rw [hgx] at hq ⊢
    dsimp only at hq ⊢
    have kx : ∀ p ∈ w, p.1 ≠ 40 ∧ (p.1 = 36 → p.2 ≠ none ∧ p.2 ≠ some 4 ∧ p.2 ≠ some 8 ∧ p.2 ≠ some 9 ∧ p.2 ≠ some 10 ∧ p.2 ≠ some 12) := by
      intro p hp
      have h3 := List.all_eq_true.mp hw p hp
      cases g1 : Nat.beq p.1 40 with
      | true => simp [g1] at h3
      | false =>
        simp only [g1] at h3
        refine ⟨fun e => (by rw [e] at g1; cases g1), fun e => ?_⟩
        rw [e] at h3
        rw [show Nat.beq 36 36 = true from rfl] at h3
        dsimp only at h3
        cases g2 : p.2 with
        | none => simp [g2] at h3
        | some j =>
          simp only [g2] at h3
          refine ⟨by simp, ?_, ?_, ?_, ?_, ?_⟩ <;> intro e2 <;> cases e2 <;> cases h3
    refine kfokG_kept hq (fun a T V ht hT hc => ?_) (fun b T V ht hT hc => ?_)
    · have l38 := hTy.2.2.2.1 T hT
      obtain ⟨V', c1, e4⟩ := hk a 36 T V 4 ht hT hc (by omega) (fun p hp e => ⟨((kx p hp).2 e).1, ((kx p hp).2 e).2.1⟩)
      obtain ⟨V8, c8, e8⟩ := hk a 36 T V 8 ht hT hc (by omega) (fun p hp e => ⟨((kx p hp).2 e).1, ((kx p hp).2 e).2.2.1⟩)
      obtain ⟨V9, c9, e9⟩ := hk a 36 T V 9 ht hT hc (by omega) (fun p hp e => ⟨((kx p hp).2 e).1, ((kx p hp).2 e).2.2.2.1⟩)
      obtain ⟨V10, c10, e10⟩ := hk a 36 T V 10 ht hT hc (by omega) (fun p hp e => ⟨((kx p hp).2 e).1, ((kx p hp).2 e).2.2.2.2.1⟩)
      obtain ⟨V12, c12, e12⟩ := hk a 36 T V 12 ht hT hc (by omega) (fun p hp e => ⟨((kx p hp).2 e).1, ((kx p hp).2 e).2.2.2.2.2⟩)
      exact ⟨V', c1, e4, (kcell_uniq c1 c8 (by omega)).trans e8, (kcell_uniq c1 c9 (by omega)).trans e9, (kcell_uniq c1 c10 (by omega)).trans e10, (kcell_uniq c1 c12 (by omega)).trans e12⟩
    · have l900 := hTy.2.2.2.2 T hT
      obtain ⟨V', c1, -⟩ := hk b 40 T V 0 ht hT hc (by omega) (fun p hp e => absurd e (kx p hp).1)
      refine ⟨V', c1, fun j hj => ?_⟩
      obtain ⟨V2, c2, e2⟩ := hk b 40 T V j ht hT hc (by omega) (fun p hp e => absurd e (kx p hp).1)
      exact (kcell_uniq c1 c2 (by omega)).trans e2
  | false =>
  rw [hgx] at hw
  dsimp only at hw
  obtain ⟨a, t, T, V, z, f1, f2, f3, f4, f5, f6, f7⟩ := kfok_N hq hgx
  unfold kkeepM at hw
  cases h1 : S.2.1[q.1]? with
  | none => rw [h1] at hw; cases hw
  | some t' =>
    simp only [h1] at hw
    cases h2 : Nat.blt t' 1000 with
    | false => rw [h2] at hw; cases hw
    | true =>
      simp only [h2] at hw
      have ft := h.2.2.1.2 q.1 t' a h1 f1
      have l1 : t' < 1000 := Nat.blt_eq.mp h2
      have l2 : t < 1000 := Nat.lt_of_lt_of_le (List.getElem?_eq_some_iff.mp f3).1 hTy.2.1
      have e := hTy.1 _ _ _ l1 l2 ft f2
      subst e
      obtain ⟨V', c1, c2⟩ := hk a t' T V z f2 f3 f4 f6 (fun p hp e => by
        have h3 := List.all_eq_true.mp hw p hp
        have e2 : Nat.beq p.1 t' = true := Nat.beq_eq.mpr e
        simp only [e2] at h3
        cases h4 : p.2 with
        | none => simp [h4] at h3
        | some j =>
          simp only [h4] at h3
          have := kneS_ok h f5 kcst_ev h3
          refine ⟨by simp, fun e3 => this ?_⟩
          have e4 := Option.some.inj e3
          subst e4
          rfl)
      exact kfok_mk hTy ⟨a, t', T, V', z, f1, f2, f3, c1, f5, f6, by rw [c2]; exact f7⟩
/-- behind a call -/
theorem kcase_ok {lo : Nat} {locs : List (Nat × kV)} {rest : List kV} {P : kS} {w : kW} {q : kCs} {v : Option Value} {e : List Int} {u : List Nat} {L : List kS} {lv0 : List (Nat × Value)} {st0 : List Value} (hTy : kTyp tt Ty) (h : kst D cA tt Ty env ren S H lv0 st0) (hs : kSg env sg zs) (hr : kSr ren sr as) (hP : kI zs P.1) (hPr : kRt Ty as P.2.1) (hk : kkp D cA tt Ty w H H1)
    (hl : kLoc env ren locs lv) (hst : kStk env ren rest st) (hq : kst D cA tt Ty (zs ++ e) (as ++ u) (kcsT P q) H1 (kans v) []) (hc : kcase locs rest S sg sr w q = some L) : ∃ S' ∈ L, kst D cA tt Ty (env ++ e) (ren ++ u) S' H1 lv (v.toList ++ st) := by
  obtain ⟨a1, a2, a3, a4, a5, a6⟩ := hq
  have le : q.1.length = e.length := by
    have := a1.1
    have := hP.1
    simp [kcsT] at *
    omega
  have lu : q.2.1.length = u.length := by
    have := a3.1
    have := hPr.1
    simp [kcsT] at *
    omega
  have hs' : kSg (env ++ e) (sg ++ ksyms S.1.length q.1) (zs ++ e) := by
    rw [← h.1.1]
    exact ksyms_ok le (kSg_ext hs)
  have hr' : kSr (ren ++ u) (sr ++ krefs S.2.1.length q.2.1) (as ++ u) := by
    rw [← h.2.2.1.1]
    exact krefs_ok lu (kSr_ext hr)
  have hI : kI (env ++ e) (S.1 ++ q.1) := by
    refine ⟨by simp [h.1.1, le], fun k r z hk hz => ?_⟩
    by_cases hlt : k < S.1.length
    · rw [List.getElem?_append_left hlt] at hk
      rw [List.getElem?_append_left (by rw [h.1.1]; exact hlt)] at hz
      exact h.1.2 k r z hk hz
    · rw [List.getElem?_append_right (by omega)] at hk
      rw [List.getElem?_append_right (by rw [h.1.1]; omega), h.1.1] at hz
      have b1 : (P.1 ++ q.1)[P.1.length + (k - S.1.length)]? = some r := by
        rw [List.getElem?_append_right (by omega)]
        simpa using hk
      have b2 : (zs ++ e)[P.1.length + (k - S.1.length)]? = some z := by
        rw [← hP.1, List.getElem?_append_right (by omega)]
        simpa using hz
      exact a1.2 _ r z b1 b2
  have hR : kRt Ty (ren ++ u) (S.2.1 ++ q.2.1) := by
    refine ⟨by simp [h.2.2.1.1, lu], fun k r z hk hz => ?_⟩
    by_cases hlt : k < S.2.1.length
    · rw [List.getElem?_append_left hlt] at hk
      rw [List.getElem?_append_left (by rw [h.2.2.1.1]; exact hlt)] at hz
      exact h.2.2.1.2 k r z hk hz
    · rw [List.getElem?_append_right (by omega)] at hk
      rw [List.getElem?_append_right (by rw [h.2.2.1.1]; omega), h.2.2.1.1] at hz
      have b1 : (P.2.1 ++ q.2.1)[P.2.1.length + (k - S.2.1.length)]? = some r := by
        rw [List.getElem?_append_right (by omega)]
        simpa using hk
      have b2 : (as ++ u)[P.2.1.length + (k - S.2.1.length)]? = some z := by
        rw [← hPr.1, List.getElem?_append_right (by omega)]
        simpa using hz
      exact a3.2 _ r z b1 b2
  have hF : ∀ p ∈ kaddF (sg ++ ksyms S.1.length q.1) (sr ++ krefs S.2.1.length q.2.1) q.2.2.2.1 (S.2.2.2.2.1.filter (kkeepW S w)), kfok D cA tt Ty (env ++ e) (ren ++ u) H1 p := by
    refine kaddF_ok hTy hs' hr' a6 (fun p hp => ?_)
    obtain ⟨p1, p2⟩ := List.mem_filter.mp hp
    exact kfok_ext (kkeepW_ok (lo := lo) hTy h hk (h.2.2.2.2.2 p p1) p2)
  unfold kcase at hc
  cases h1 : q.2.2.1 with
  | none =>
    simp only [h1] at hc
    have hv : v = none := by
      have a4 : kLoc (zs ++ e) (as ++ u) (match q.2.2.1 with
        | some v => [(0, v)]
        | none => []) (kans v) := a4
      rw [h1] at a4
      cases v with
      | none => rfl
      | some x => exact a4.elim
    subst hv
    obtain ⟨S', g1, g2⟩ := kaddC_ok (D := D) (cA := cA) (tt := tt) (Ty := Ty) (ren := ren ++ u) (H := H1) (lv := lv) (st := st) hs' (S := (S.1 ++ q.1, S.2.1 ++ q.2.1, locs, rest, kaddF (sg ++ ksyms S.1.length q.1) (sr ++ krefs S.2.1.length q.2.1) q.2.2.2.1 (S.2.2.2.2.1.filter (kkeepW S w)), S.2.2.2.2.2)) ⟨hI, kC_ext h.2.1, hR, kLoc_ext hl, kStk_ext hst, hF⟩ a2
    rw [show kaddC (sg ++ ksyms S.1.length q.1) q.2.2.2.2.1 _ = some S' from g1] at hc
    obtain rfl := Option.some.inj hc
    exact ⟨S', List.mem_cons_self, g2⟩
  | some b =>
    simp only [h1] at hc
    have a4 : kLoc (zs ++ e) (as ++ u) (match q.2.2.1 with
      | some v => [(0, v)]
      | none => []) (kans v) := a4
    rw [h1] at a4
    cases v with
    | none => exact a4.elim
    | some x =>
      have hx : kvok (zs ++ e) (as ++ u) b x := a4.2.1
      cases h2 : ksubV (sg ++ ksyms S.1.length q.1) (sr ++ krefs S.2.1.length q.2.1) b with
      | none => simp [h2] at hc
      | some b' =>
        simp only [h2] at hc
        have hx' := (ksubV_ok hs' hr' h2).mp hx
        obtain ⟨S', g1, g2⟩ := kaddC_ok (D := D) (cA := cA) (tt := tt) (Ty := Ty) (ren := ren ++ u) (H := H1) (lv := lv) (st := x :: st) hs' (S := (S.1 ++ q.1, S.2.1 ++ q.2.1, locs, b' :: rest, kaddF (sg ++ ksyms S.1.length q.1) (sr ++ krefs S.2.1.length q.2.1) q.2.2.2.1 (S.2.2.2.2.1.filter (kkeepW S w)), S.2.2.2.2.2)) ⟨hI, kC_ext h.2.1, hR, kLoc_ext hl, ⟨hx', kStk_ext hst⟩, hF⟩ a2
        rw [show kaddC (sg ++ ksyms S.1.length q.1) q.2.2.2.2.1 _ = some S' from g1] at hc
        obtain rfl := Option.some.inj hc
        exact ⟨S', List.mem_cons_self, g2⟩
theorem kcases_mem {locs : List (Nat × kV)} {rest : List kV} {w : kW} {q : kCs} : ∀ {l : List kCs} {L : List kS}, kcases locs rest S sg sr w l = some L → q ∈ l → ∃ L', kcase locs rest S sg sr w q = some L' ∧ ∀ S' ∈ L', S' ∈ L
  | [], L, _, hq => by cases hq
  | p :: t, L, h, hq => by
    unfold kcases at h
    split at h
    · rename_i a b h1 h2
      obtain rfl := Option.some.inj h
      rcases List.mem_cons.mp hq with rfl | hq
      · exact ⟨a, h1, fun S' hS => List.mem_append_left _ hS⟩
      · obtain ⟨L', g1, g2⟩ := kcases_mem h2 hq
        exact ⟨L', g1, fun S' hS => List.mem_append_right _ (g2 S' hS)⟩
    · cases h
end KCALL
