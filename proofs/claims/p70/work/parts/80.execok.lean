def kEof (tt : List kT) (aty : List FieldType) (ct : List kCt) (ow : kOw) (nL : Nat) (rt : Option FieldType) (C : kCt) : kEn := (tt, aty, ct, ow, nL, C.2.1, C.2.2.2.1, rt, C.2.2.2.2.1, C.2.2.2.2.2)
/-- all that a body's walk rests on -/
def kRest (l : Launch) (cl : List vw_C) (aty : List FieldType) (lg nw : List Cond) (sk : kSk) (mt : List kMd) (D : va_G) (cA aS : Nat → Nat) (tt : List kT) (Ty : Nat → Nat → Prop) (lo : Nat) (X : State → Heap → Prop) (ct : List kCt) (own : String) (ow : kOw) (d : Nat) : Prop :=
  (∀ w ∈ lg, goodWord w = true) ∧ kOwC own ow lg sk ∧ kOwF own ow cl lg ∧ kOwM own ow cl mt lg nw ∧ kclok cl lg ∧ ktok tt cl ∧ kNest nw ∧ kXok X lo ∧ kTyp tt Ty ∧ (∀ (j : Nat) (q : String × Nat × String), sk[j]? = some q → Ty (aS j) (ksn j)) ∧ ∀ (i : Nat) (C : kCt), ct[i]? = some C → C.2.2.2.2.2 < d → kMet l cl aty lg nw sk mt D cA aS tt Ty lo X C
section KXO
variable {p : Program} {l : Launch} {e : Env} {s : State} {m : MethodId} {args : Array Value} {below : List Frame} {meth : Method} {c : Code} {H : Heap} {locs : List Loc}
variable {cc : ByteArray} {ls : Array Slot} {cl : List vw_C} {aty : List FieldType} {nw lg : List Cond} {sk : kSk} {cA aS : Nat → Nat} {mt : List kMd} {X : State → Heap → Prop} {lo : Nat}
variable {D : va_G} {tt : List kT} {Ty : Nat → Nat → Prop} {zs : List Int} {as : List Nat} {S : kS} {lv : List (Nat × Value)} {st : List Value} {ct : List kCt} {own : String} {ow : kOw} {nL : Nat} {rt : Option FieldType} {C : kCt} {B : kBd}
/-- how far the heap may have moved since the method began -/
def kmov (D : va_G) (cA : Nat → Nat) (tt : List kT) (Ty : Nat → Nat → Prop) (lo : Nat) (wr : kW) (H0 H : Heap) (locs : List Loc) : Prop := kgood D cA tt Ty lo H ∧ kfr lo H0 H ∧ kkp D cA tt Ty wr H0 H ∧ ∀ q ∈ locs, lo ≤ q.base
theorem kmov_step {wr : kW} {H0 H1 : Heap} {L : List Loc} (h : kmov D cA tt Ty lo wr H0 H locs) (h1 : kgood D cA tt Ty lo H1) (h2 : kfr lo H H1) (h3 : kkp D cA tt Ty wr H H1) (h4 : ∀ q ∈ L, lo ≤ q.base) : kmov D cA tt Ty lo wr H0 H1 (locs ++ L) :=
  ⟨h1, kfr_trans h.2.1 h2, kkp_trans h.2.2.1 h3, fun q hq => by
    rcases List.mem_append.mp hq with g | g
    · exact h.2.2.2 q g
    · exact h4 q g⟩
theorem kret1_ok {x : List Int} {u : List Nat} {P : kS} {q : kCs} {va : List (Nat × kV)} {vc : List (Nat × Value)} (hTy : kTyp tt Ty) (hG : kgood D cA tt Ty lo H) (hP : P.1.length = zs.length) (hP2 : P.2.1.length = as.length) (h : kst D cA tt Ty (zs ++ x) (as ++ u) S H lv st) (hv : kLoc (zs ++ x) (as ++ u) va vc) (hr : kret1 tt P S va q = true) : ∃ x' u' vc', kst D cA tt Ty (zs ++ x') (as ++ u') (kcsT P q) H vc' [] ∧ ∀ w ∈ vc', w ∈ vc := by
  unfold kret1 at hr
  split at hr
  · rename_i r hb
    have h1 : kst D cA tt Ty (zs ++ x) (as ++ u) (S.1, S.2.1, va, [], S.2.2.2.2) H vc [] := ⟨h.1, h.2.1, h.2.2.1, hv, trivial, h.2.2.2.2.2⟩
    obtain ⟨e1, u1, zs', as', g1, g2, g3⟩ := kbind_ok hTy hG h1 (ksyms_pre hP) (krefs_pre hP2) hb
    obtain ⟨lv', g4, g5⟩ := kch_ok hTy g1 g2 g3 hr
    exact ⟨zs', as', lv', g4, g5⟩
  · cases hr
/-- a list of at most one answer is the answer -/
theorem kans_of {P : kS} {q : kCs} {env : List Int} {ren : List Nat} {v : Option Value} {vc' : List (Nat × Value)} {sa : List kV} (h : kst D cA tt Ty env ren (kcsT P q) H vc' []) (hs : ∀ w ∈ vc', w ∈ kans v) (hne : v ≠ none → q.2.2.1 ≠ none) : kst D cA tt Ty env ren (kcsT P q) H (kans v) [] := by
  obtain ⟨a1, a2, a3, a4, a5, a6⟩ := h
  refine ⟨a1, a2, a3, ?_, a5, a6⟩
  have a4 : kLoc env ren (match q.2.2.1 with
    | some v => [(0, v)]
    | none => []) vc' := a4
  show kLoc env ren (match q.2.2.1 with
    | some v => [(0, v)]
    | none => []) (kans v)
  cases h1 : q.2.2.1 with
  | none =>
    cases v with
    | none => exact trivial
    | some y => exact absurd h1 (hne (by simp))
  | some b =>
    rw [h1] at a4
    match vc', a4, hs with
    | [w], a4, hs =>
      have hw := hs w List.mem_cons_self
      cases v with
      | none => cases hw
      | some y =>
        have e : w = (0, y) := by simpa [kans] using hw
        subst e
        exact a4
    | [], a4, _ => exact a4.elim
    | _ :: _ :: _, a4, _ => exact a4.2.2.elim
end KXO
