/-! BY HAND: fields and rows, one by one -/
section HMEM
variable {p : Program} {l : Launch} {e : Env} {R : Room} {s : State} {m : MethodId} {args : Array Value} {below : List Frame} {meth : Method} {c : Code} {H H0 H1 : Heap} {locs : List Loc} {cells slots : Nat} {Q : State → Prop}
variable {cc : ByteArray} {pc : Nat} {ls : Array Slot} {rest : List Value} {cl : List vw_C} {aty : List FieldType} {nw lg : List Cond} {sk : kSk} {D : va_G} {cA aS : Nat → Nat} {T : kT} {a : Nat} {V : Nat → Value} {tt : List kT} {Ty : Nat → Nat → Prop} {lo : Nat} {wr : kW} {ow : kOw} {own : String}
theorem h_get {idx j tc : Nat} (hexec : p.tables.exec = Jvm.exec) (hb : c.code = cc) (hts : ∀ w ∈ lg, w.before args s = true) (hcl : kclok cl lg) (hown : s.vm.findClass own = some m.cls) (hK : kK cl aty nw sk D cA aS s) (hF : kOwF own ow cl lg) (hq : (idx, T.1, j, tc) ∈ ow.1) (hk : Nat.blt T.1 100 = true) (hjT : j < T.2.1) (hcell : kcell D cA T a H V) (hdg : decode cc pc = .ok (.getfield idx, 3))
    (kk : W p l e R s m args below meth c H locs cells slots Q (F0 m (pc + 3) ls (V j :: rest))) : W p l e R s m args below meth c H locs cells slots Q (F0 m pc ls (.ref a :: rest)) := by
  obtain ⟨C, Tf, N, h1, h2, h3, -⟩ := hF _ hq
  exact r_get hexec hb hts hcl hown hK h1 hk h2 hjT (hts _ h3) hcell hdg kk
theorem h_put {idx j tc : Nat} {v : Value} (hexec : p.tables.exec = Jvm.exec) (hb : c.code = cc) (hts : ∀ w ∈ lg, w.before args s = true) (hcl : kclok cl lg) (hown : s.vm.findClass own = some m.cls) (hK : kK cl aty nw sk D cA aS s) (hF : kOwF own ow cl lg) (htok : ∃ (C : String) (Tf : u_T), cl[T.1]? = some (C, Tf, T.2.1)) (hq : (idx, T.1, j, tc) ∈ ow.1) (htc : tc < 3) (hk : Nat.blt T.1 100 = true) (hv : kfix (kfty tc) v) (hcell : kcell D cA T a H V) (hdg : decode cc pc = .ok (.putfield idx, 3))
    (kk : ∀ (H1 : Heap) (i : Nat), kcell D cA T a H1 (updV V j v) → H1.size = H.size → (∀ q, q ≠ a → H1[q]? = H[q]?) → W p l e R s m args below meth c H1 (locs ++ [⟨a, i⟩]) cells slots Q (F0 m (pc + 3) ls rest)) : W p l e R s m args below meth c H locs cells slots Q (F0 m pc ls (v :: .ref a :: rest)) := by
  obtain ⟨C, Tf, N, h1, h2, h3, h4⟩ := hF _ hq
  obtain ⟨C', Tf', h5⟩ := htok
  have e : (C', Tf', T.2.1) = (C, Tf, N) := Option.some.inj (h5.symm.trans h1)
  obtain ⟨g1, g2⟩ := h4 htc
  obtain ⟨n1, n2⟩ := kfix_narrow hv
  exact r_put hexec hb hts hcl hown hK h1 hk h2 (by cases e; rfl) (hts _ h3) g1 g2 n1 n2 hcell hdg kk
/-- the heap is good again -/
theorem kgood_of (hTy : kTyp tt Ty) (hG : kgood D cA tt Ty lo H) (L : List (Nat × Nat)) (h1 : ∀ x ∈ L, x.2 < 1000 ∧ Ty x.1 x.2 ∧ ∀ T, tt[x.2]? = some T → ∃ V, kcell D cA T x.1 H1 V ∧ kvals Ty T V) (ho : ∀ q, (∀ x ∈ L, q ≠ x.1) → H1[q]? = H[q]?) (hY : kY D cA tt Ty H1) : kgood D cA tt Ty lo H1 := by
  refine ⟨fun a' t' T' ht' hT' => ?_, hY⟩
  obtain ⟨g1, V0, g2, g3⟩ := hG.1 a' t' T' ht' hT'
  by_cases hx : ∃ x ∈ L, a' = x.1
  · obtain ⟨x, hx, rfl⟩ := hx
    obtain ⟨k0, k1, k2⟩ := h1 x hx
    have hl : t' < 1000 := Nat.lt_of_lt_of_le (List.getElem?_eq_some_iff.mp hT').1 hTy.2.1
    have e := hTy.1 _ _ _ hl k0 ht' k1
    subst e
    obtain ⟨V, w1, w2⟩ := k2 T' hT'
    exact ⟨g1, V, w1, w2⟩
  · exact ⟨g1, V0, kcell_kept g2 (ho a' (fun x hxL e => hx ⟨x, hxL, e⟩)), g3⟩
theorem kkp_of (hTy : kTyp tt Ty) (L : List (Nat × Nat)) (h1 : ∀ x ∈ L, x.2 < 1000 ∧ Ty x.1 x.2 ∧ ((x.2, none) ∈ wr ∨ ∃ j0, (x.2, some j0) ∈ wr ∧ ∀ T V, tt[x.2]? = some T → kcell D cA T x.1 H V → ∃ V', kcell D cA T x.1 H1 V' ∧ ∀ j, j < T.2.1 → j ≠ j0 → V' j = V j)) (ho : ∀ q, (∀ x ∈ L, q ≠ x.1) → H1[q]? = H[q]?) : kkp D cA tt Ty wr H H1 := by
  intro a' t' T' V' j ht' hT' hc' hj hw
  by_cases hx : ∃ x ∈ L, a' = x.1
  · obtain ⟨x, hx, rfl⟩ := hx
    obtain ⟨k0, k1, k2⟩ := h1 x hx
    have hl : t' < 1000 := Nat.lt_of_lt_of_le (List.getElem?_eq_some_iff.mp hT').1 hTy.2.1
    have e := hTy.1 _ _ _ hl k0 ht' k1
    subst e
    rcases k2 with k2 | ⟨j0, k2, k3⟩
    · exact absurd rfl (hw _ k2 rfl).1
    · obtain ⟨V2, w1, w2⟩ := k3 T' V' hT' hc'
      exact ⟨V2, w1, w2 j hj (fun e => (hw _ k2 rfl).2 (by rw [e]))⟩
  · exact ⟨V', kcell_kept hc' (ho a' (fun x hxL e => hx ⟨x, hxL, e⟩)), rfl⟩
/-- what a run of a type says -/
theorem kvals_at (hv : kvals Ty T V) {r : kRun} {P : Nat} (hr : r ∈ T.2.2.1) (hP : P < r.2.2.1) {j : Nat} (hj : r.1 + r.2.1 * P = j) : kpok Ty r.2.2.2 (V j) := by
  subst hj
  exact hv.1 r hr P hP
theorem updV_same {j : Nat} {v : Value} : updV V j v j = v := by simp [updV]
theorem updV_ne {j i : Nat} {v : Value} (h : i ≠ j) : updV V j v i = V i := by simp [updV, h]
/-- a value set at an index of a row of one kind -/
theorem kvals_set {k : Nat} {P : kP} {z : Nat} {v : Value} (hr : T.2.2.1 = [(0, 1, k, P)]) (hse : T.2.2.2 = []) (hv : kvals Ty T V) (hp : kpok Ty P v) : kvals Ty T (updV V z v) := by
  refine ⟨fun q hq i hi => ?_, fun q hq => by rw [hse] at hq; cases hq⟩
  have h0 := hv.1 q hq i hi
  rw [hr] at hq
  have e : q = (0, 1, k, P) := by simpa using hq
  subst e
  by_cases e : 0 + 1 * i = z
  · show kpok Ty P (updV V z v (0 + 1 * i))
    rw [e, updV_same]
    exact hp
  · show kpok Ty P (updV V z v (0 + 1 * i))
    rw [updV_ne e]
    exact h0
end HMEM
