/-! WALKS BY HAND: their beginning, and the checker taking over -/
section KHAND
variable {l : Launch} {cl : List vw_C} {aty : List FieldType} {nw lg : List Cond} {sk : kSk} {cA aS : Nat → Nat} {mt : List kMd} {X : State → Heap → Prop} {lo : Nat}
variable {D : va_G} {tt : List kT} {Ty : Nat → Nat → Prop} {ct : List kCt} {ow : kOw} {C : kCt}
/-- what a contract by hand owes -/
def kOwe (p : Program) (l : Launch) (e : Env) (D : va_G) (cA : Nat → Nat) (tt : List kT) (Ty : Nat → Nat → Prop) (lo : Nat) (C : kCt) (zs : List Int) (as : List Nat) (s : State) (m : MethodId) (args : Array Value) (below : List Frame) (meth : Method) (c : Code) (H : Heap) (locs : List Loc) (pc : Nat) (ls : Array Slot) (st : List Value) : Prop :=
  W p l e (krm C.2.2.2.2.2) s m args below meth c H locs 0 0 (MQ below (kQc D cA tt Ty lo C zs as) args s 0 0 (fun q => lo ≤ q)) (F0 m pc ls st)
theorem khand {y : MethodName} {b : ByteArray} {mL : Nat} {r : Option FieldType} (hy : plainFor y = true) (hmt : mt[C.1]? = some (y, b, mL, r))
    (hand : ∀ (p : Program) (e : Env) (s : State) (m : MethodId) (args : Array Value) (below : List Frame) (meth : Method) (c : Code), kCtx p cl aty lg nw sk D cA aS X y b mL r s m args meth c → ∀ (zs : List Int) (as : List Nat) (lv : List (Nat × Value)) (ls : Array Slot), kst D cA tt Ty zs as C.2.1 s.heap lv [] → lv_has ls mL lv → kgood D cA tt Ty lo s.heap → kOwe p l e D cA tt Ty lo C zs as s m args below meth c s.heap [] 0 ls []) : kMet l cl aty lg nw sk mt D cA aS tt Ty lo X C := by
  intro y' b' mL' r' hmt' zs as vs
  have e0 : (y', b', mL', r') = (y, b, mL, r) := Option.some.inj (hmt'.symm.trans hmt)
  obtain ⟨rfl, rfl, rfl, rfl⟩ : y' = y ∧ b' = b ∧ mL' = mL ∧ r' = r := by
    simpa using e0
  refine Met.ofWF (cc := b') (maxL := mL') (ret := r') hy rfl ?_
  intro p e s m args below meth c s₁ Bd hml hv
  obtain ⟨⟨rfl, hsl⟩, hK, hXs, hG, lv', hs0, hsub⟩ := hv
  have hts : ∀ w ∈ lg, w.before vs.toArray s = true := fun w hw => atoms_spec (ws := Cond.code y' b' mL' r' :: lg) Bd.pre w (List.mem_cons_of_mem _ hw)
  have hown : s.vm.findClass y'.cls = some m.cls := findClass_of_methodNamed Bd.named
  have hlv0 := lv_entry vs hsl
  have hlv : lv_has ((lg_sl vs ++ List.replicate (mL' - (lg_sl vs).length) Slot.unset).toArray) mL' lv' := ⟨hlv0.1, hlv0.2.1, fun q hq => hlv0.2.2 q (hsub q hq)⟩
  show W p l e (krm C.2.2.2.2.2) s m vs.toArray below meth c s.heap [] 0 0 _ (entryFrame m vs.toArray mL')
  rw [lg_entry_eq]
  exact hand p e s m vs.toArray below meth c ⟨Bd.exec, Bd.bytes, hml, hown, hts, Bd.returns, Bd.notSynchronized, hK, hXs⟩ zs as lv' _ hs0 hlv hG
/-- from here on the checker -/
theorem kfrom {p : Program} {e : Env} {s : State} {m : MethodId} {args : Array Value} {below : List Frame} {meth : Method} {c : Code} {y : MethodName} {b : ByteArray} {mL : Nat} {r : Option FieldType} (hcx : kCtx p cl aty lg nw sk D cA aS X y b mL r s m args meth c) (hR : kRest l cl aty lg nw sk mt D cA aS tt Ty lo X ct y.cls ow C.2.2.2.2.2) {zs : List Int} {as : List Nat} (hP : C.2.1.1.length = zs.length) (hP2 : C.2.1.2.1.length = as.length) {cd cur : kCd} {cal : List (Nat × List Nat)} (hcode : ∀ q ∈ cd, decode b q.1 = .ok (q.2.1, q.2.2)) {n pc : Nat} {S : kS} (hcur : kdrop pc cd = some cur) (hchk : kexec (kEof tt aty ct ow mL r C) (cd, cal, [], []) none n false cur S = true)
    {x : List Int} {u : List Nat} {H : Heap} {locs : List Loc} {lv : List (Nat × Value)} {st : List Value} {ls : Array Slot} (h : kst D cA tt Ty (zs ++ x) (as ++ u) S H lv st) (hlv : lv_has ls mL lv) (hm : kmov D cA tt Ty lo C.2.2.2.2.1 s.heap H locs) : kOwe p l e D cA tt Ty lo C zs as s m args below meth c H locs pc ls st := by
  obtain ⟨h1, h2, h3, h4, h5, h6, h7, h8, h9⟩ := hcx
  obtain ⟨g1, ins, len, t2, g2⟩ := kdrop_ok hcur
  exact kexec_ok (B := (cd, cal, [], [])) (x0 := x) (rb := none) h1 h2 h3 h4 h5 h6 h7 h8 h9 hR hP hP2 hcode (fun cu x2 u2 H2 locs2 lv2 st2 ls2 z2 w1 => by cases w1) n false cur S x u H locs lv st ls pc (ins, len) t2 hchk g2 g1 ⟨[], by simp⟩ h hlv hm
end KHAND
