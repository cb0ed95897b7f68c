section KDO
variable {p : Program} {l : Launch} {e : Env} {s : State} {m : MethodId} {args : Array Value} {below : List Frame} {meth : Method} {c : Code} {H : Heap} {locs : List Loc}
variable {cc : ByteArray} {ls : Array Slot} {cl : List vw_C} {aty : List FieldType} {nw lg : List Cond} {sk : kSk} {cA aS : Nat → Nat} {mt : List kMd} {X : State → Heap → Prop} {lo : Nat}
variable {D : va_G} {tt : List kT} {Ty : Nat → Nat → Prop} {zs : List Int} {as : List Nat} {S : kS} {lv : List (Nat × Value)} {st : List Value} {ct : List kCt} {own : String} {ow : kOw} {nL : Nat} {rt : Option FieldType} {C : kCt} {B : kBd}
theorem kret_ok {x : List Int} {u : List Nat} {pc : Nat} {ins : Instr} (hexec : p.tables.exec = Jvm.exec) (hb : c.code = cc) (hrt : meth.sig.returnType = rt) (hlk : meth.locks = false) (hTy : kTyp tt Ty) (hP : C.2.1.1.length = zs.length) (hP2 : C.2.1.2.1.length = as.length) (hm : kmov D cA tt Ty lo C.2.2.2.2.1 s.heap H locs)
    (h : kst D cA tt Ty (zs ++ x) (as ++ u) S H lv st) (hd : decode cc pc = .ok (ins, 1)) (hs : kret tt C.2.1 C.2.2.2.1 rt ins S = true) : W p l e (krm C.2.2.2.2.2) s m args below meth c H locs 0 0 (MQ below (kQc D cA tt Ty lo C zs as) args s 0 0 (fun q => lo ≤ q)) (F0 m pc ls st) := by
  have hk := h.2.2.2.2.1
  have fin : ∀ (v : Option Value) (va : List (Nat × kV)) (q : kCs), q ∈ C.2.2.2.1 → kret1 tt C.2.1 S va q = true → kLoc (zs ++ x) (as ++ u) va (kans v) → (v ≠ none → q.2.2.1 ≠ none) → ∀ t : State, t.heap = H → s.WarmedH t.vm → kQc D cA tt Ty lo C zs as args s (.returned v) t := by
    intro v va q hq hr hv hne t ht _
    obtain ⟨x', u', vc', g1, g2⟩ := kret1_ok hTy hm.1 hP hP2 h hv hr
    refine ⟨v, q, x', u', rfl, hq, ?_, by rw [ht]; exact hm.1, by rw [ht]; exact hm.2.2.1, by rw [ht]; exact hm.2.1⟩
    rw [ht]
    exact kans_of (sa := []) g1 g2 hne
  unfold kret at hs
  split at hs
  · rename_i ty f h1
    rw [h1] at hk
    split at hs
    · rename_i hf
      obtain ⟨q, q1, q2⟩ := List.any_eq_true.mp hs
      match st, hk with
      | [y], hk =>
        cases h2 : q.2.2.1 with
        | none => simp [h2] at q2
        | some b =>
          simp only [h2] at q2
          obtain ⟨n1, -⟩ := kfix_narrow (kfixA_ok h hk.1 hf)
          have fq := fin (some y) [(0, .inl f)] q q1 q2 ⟨rfl, hk.1, trivial⟩ (fun _ => by rw [h2]; simp)
          obtain ⟨n, e1, -⟩ := id hk.1
          subst e1
          exact W.zret hexec hb hrt n1 fq hm.2.2.2 hd hlk
      | [], hk => exact hk.elim
      | _ :: _ :: _, hk => exact hk.2.elim
    · cases hs
  · rename_i v h1
    rw [h1] at hk
    split at hs
    · rename_i hf
      obtain ⟨q, q1, q2⟩ := List.any_eq_true.mp hs
      match st, hk with
      | [y], hk =>
        cases h2 : q.2.2.1 with
        | none => simp [h2] at q2
        | some b =>
          simp only [h2] at q2
          have fq := fin (some y) [(0, v)] q q1 q2 ⟨rfl, hk.1, trivial⟩ (fun _ => by rw [h2]; simp)
          match v, hk.1, hf with
          | .inr (.inl f), ⟨n, e1, _⟩, _ =>
            subst e1
            exact W.lret hexec hb hrt fq hm.2.2.2 hd hlk
          | .inl f, _, hf => cases hf
          | .inr (.inr (.inl f)), _, hf => cases hf
          | .inr (.inr (.inr f)), _, hf => cases hf
      | [], hk => exact hk.elim
      | _ :: _ :: _, hk => exact hk.2.elim
    · cases hs
  · rename_i h1
    rw [h1] at hk
    obtain ⟨q, q1, q2⟩ := List.any_eq_true.mp hs
    match st, hk with
    | [], hk =>
      exact W.vret hexec hb hrt (fin none [] q q1 q2 trivial (fun hne => absurd rfl hne)) hm.2.2.2 hd hlk
    | _ :: _, hk => exact hk.elim
  · cases hs
end KDO
