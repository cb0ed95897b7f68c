/-! A BODY WITH CUTS THAT ARE WALKED BY HAND: the first na cuts by the checker, the rest by hand -/
def kbodyH (E : kEn) (B : kBd) (na n : Nat) : Bool := match kexec E B none n false B.1 E.2.2.2.2.2.1 with
  | true => (B.2.2.2.take na).all (fun c => match kdrop c.1 B.1 with
    | some cur => kexec E B (some c.2.2) n false cur c.2.1.1
    | none => false)
  | false => false
section KHYB
variable {l : Launch} {cl : List vw_C} {aty : List FieldType} {nw lg : List Cond} {sk : kSk} {cA aS : Nat → Nat} {mt : List kMd} {X : State → Heap → Prop} {lo : Nat}
variable {D : va_G} {tt : List kT} {Ty : Nat → Nat → Prop} {ct : List kCt} {ow : kOw} {C : kCt} {B : kBd}
/-- what a walk by hand may take for granted -/
def kCtx (p : Program) (cl : List vw_C) (aty : List FieldType) (lg nw : List Cond) (sk : kSk) (D : va_G) (cA aS : Nat → Nat) (X : State → Heap → Prop) (y : MethodName) (b : ByteArray) (mL : Nat) (r : Option FieldType) (s : State) (m : MethodId) (args : Array Value) (meth : Method) (c : Code) : Prop :=
  p.tables.exec = Jvm.exec ∧ c.code = b ∧ c.maxLocals = mL ∧ s.vm.findClass y.cls = some m.cls ∧ (∀ w ∈ lg, w.before args s = true) ∧ meth.sig.returnType = r ∧ meth.locks = false ∧ kK cl aty nw sk D cA aS s ∧ X s s.heap
theorem kbodyH_met {y : MethodName} {b : ByteArray} {mL n na : Nat} {r : Option FieldType} {w : Instr × Nat} {t : kCd} (hy : plainFor y = true) (hmt : mt[C.1]? = some (y, b, mL, r)) (hR : kRest l cl aty lg nw sk mt D cA aS tt Ty lo X ct y.cls ow C.2.2.2.2.2) (hcode : ∀ q ∈ B.1, decode b q.1 = .ok (q.2.1, q.2.2)) (hst : B.1 = (0, w) :: t) (hbody : kbodyH (kEof tt aty ct ow mL r C) B na n = true)
    (hand : ∀ (p : Program) (e : Env) (s : State) (m : MethodId) (args : Array Value) (below : List Frame) (meth : Method) (c : Code), kCtx p cl aty lg nw sk D cA aS X y b mL r s m args meth c → ∀ (zs : List Int) (as : List Nat), C.2.1.1.length = zs.length → C.2.1.2.1.length = as.length → ∀ cu ∈ B.2.2.2.drop na, ∀ (x : List Int) (u : List Nat) (H : Heap) (locs : List Loc) (lv : List (Nat × Value)) (st : List Value) (ls : Array Slot), kst D cA tt Ty (zs ++ x) (as ++ u) cu.2.1.1 H lv st → lv_has ls mL lv → kmov D cA tt Ty lo C.2.2.2.2.1 s.heap H locs → W p l e (krm C.2.2.2.2.2) s m args below meth c H locs 0 0 (MQ below (kQc D cA tt Ty lo C zs as) args s 0 0 (fun q => lo ≤ q)) (F0 m cu.1 ls st)) : kMet l cl aty lg nw sk mt D cA aS tt Ty lo X C := by
  intro y' b' mL' r' hmt' zs as vs
  have e0 : (y', b', mL', r') = (y, b, mL, r) := Option.some.inj (hmt'.symm.trans hmt)
  obtain ⟨rfl, rfl, rfl, rfl⟩ : y' = y ∧ b' = b ∧ mL' = mL ∧ r' = r := by
    simpa using e0
  refine Met.ofWF (cc := b') (maxL := mL') (ret := r') hy rfl ?_
  intro p e s m args below meth c s₁ Bd hml hv
  obtain ⟨⟨rfl, hsl⟩, hK, hXs, hG, lv', hs0, hsub⟩ := hv
  have hts : ∀ w ∈ lg, w.before vs.toArray s = true := fun w hw => atoms_spec (ws := Cond.code y' b' mL' r' :: lg) Bd.pre w (List.mem_cons_of_mem _ hw)
  have hown : s.vm.findClass y'.cls = some m.cls := findClass_of_methodNamed Bd.named
  have hP : C.2.1.1.length = zs.length := hs0.1.1.symm
  have hP2 : C.2.1.2.1.length = as.length := hs0.2.2.1.1.symm
  have hlv0 := lv_entry vs hsl
  have hlv : lv_has ((lg_sl vs ++ List.replicate (mL' - (lg_sl vs).length) Slot.unset).toArray) mL' lv' := ⟨hlv0.1, hlv0.2.1, fun q hq => hlv0.2.2 q (hsub q hq)⟩
  have hm : kmov D cA tt Ty lo C.2.2.2.2.1 s.heap s.heap [] := ⟨hG, kfr_rfl, kkp_rfl, fun q hq => by cases hq⟩
  have hand' := hand p e s m vs.toArray below meth c ⟨Bd.exec, Bd.bytes, hml, hown, hts, Bd.returns, Bd.notSynchronized, hK, hXs⟩ zs as hP hP2
  unfold kbodyH at hbody
  split at hbody
  case h_2 => cases hbody
  rename_i hb0
  have cuts : ∀ (N : Nat) (cu : kCut) (x : List Int) (u : List Nat) (H : Heap) (locs : List Loc) (lv : List (Nat × Value)) (st : List Value) (ls : Array Slot) (z : Int), cu ∈ B.2.2.2 → kst D cA tt Ty (zs ++ x) (as ++ u) cu.2.1.1 H lv st → lv_has ls mL' lv → kmov D cA tt Ty lo C.2.2.2.2.1 s.heap H locs → kev (zs ++ x) cu.2.2 = some z → 0 ≤ z → z < N → W p l e (krm C.2.2.2.2.2) s m vs.toArray below meth c H locs 0 0 (MQ below (kQc D cA tt Ty lo C zs as) vs.toArray s 0 0 (fun q => lo ≤ q)) (F0 m cu.1 ls st) := by
    intro N
    induction N with
    | zero => intro cu x u H locs lv st ls z _ _ _ _ _ h0 h1; omega
    | succ N ih =>
      intro cu x u H locs lv st ls z hcu h1 h2 h3 h4 h5 h6
      rw [← List.take_append_drop na B.2.2.2] at hcu
      rcases List.mem_append.mp hcu with hcu | hcu
      · have hb1 := List.all_eq_true.mp hbody cu hcu
        split at hb1
        · rename_i cur hcur
          obtain ⟨g1, ins, len, t2, g2⟩ := kdrop_ok hcur
          refine kexec_ok (x0 := x) (rb := some cu.2.2) Bd.exec Bd.bytes hml hown hts Bd.returns Bd.notSynchronized hK hXs hR hP hP2 hcode (fun cu2 x2 u2 H2 locs2 lv2 st2 ls2 z2 w1 w2 w3 w4 w5 w6 w7 => ?_) n false cur cu.2.1.1 x u H locs lv st ls cu.1 (ins, len) t2 hb1 g2 g1 ⟨[], by simp⟩ h1 h2 h3
          have := w7 _ _ rfl h4
          exact ih cu2 x2 u2 H2 locs2 lv2 st2 ls2 z2 w1 w2 w3 w4 w5 w6 (by omega)
        · cases hb1
      · exact hand' cu hcu x u H locs lv st ls h1 h2 h3
  show W p l e (krm C.2.2.2.2.2) s m vs.toArray below meth c s.heap [] 0 0 _ (entryFrame m vs.toArray mL')
  rw [lg_entry_eq]
  refine kexec_ok (x0 := []) (rb := none) Bd.exec Bd.bytes hml hown hts Bd.returns Bd.notSynchronized hK hXs hR hP hP2 hcode (fun cu2 x2 u2 H2 locs2 lv2 st2 ls2 z2 w1 w2 w3 w4 w5 w6 _ => cuts (z2.toNat + 1) cu2 x2 u2 H2 locs2 lv2 st2 ls2 z2 w1 w2 w3 w4 w5 w6 (by omega)) n false B.1 C.2.1 [] [] s.heap [] lv' [] _ 0 w t hb0 hst (fun q hq => hq) ⟨[], rfl⟩ (by rw [List.append_nil, List.append_nil]; exact hs0) hlv hm
end KHYB
