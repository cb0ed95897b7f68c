theorem Met.ofWF {l : Launch} {y : MethodName} {ws ws' : List Cond} {rm : Room} {Pc : Array Value → State → Prop} {Qc : Array Value → State → Outcome → State → Prop} {mc ms : Nat} {free : Addr → Prop} {cc : ByteArray} {maxL : Nat} {ret : Option FieldType}
    (hy : plainFor y = true) (hw : ws = Cond.code y cc maxL ret :: ws')
    (body : ∀ p e s m args below meth c s₁, BodyLoose p l y (headSpec ws rm) cc maxL ret e s m args below meth c s₁ → c.maxLocals = maxL → Pc args s →
      W p l e (headSpec ws rm).room s m args below meth c s.heap [] 0 0 (MQ below Qc args s mc ms free) (entryFrame m args maxL)) : Met l y ws rm Pc Qc mc ms free := by
  refine MetFree.of_bodySF (code := cc) (maxLocals := maxL) (ret := ret) hy ?_ ?_
  · intro args s m h hn
    obtain ⟨meth, c, h1, h2, h3, h4, h5, h6, -, -⟩ := Cond.code_spec hn (atoms_spec (ws := ws) h _ (by rw [hw]; exact List.mem_cons_self))
    exact ⟨meth, c, h1, h2, h3, h4, h5, h6⟩
  · intro p e s m args below meth c s₁ B hml hP _
    have hh0 : s₁.heap = s.heap := by rw [B.state]; rfl
    obtain ⟨t, a1, o, b1, b2, b3⟩ := body p e s m args below meth c s₁ B hml hP s₁ hh0 (Stand.of_body B)
    exact ⟨t, o, a1, b1, b2, ⟨b3.1, b3.2⟩⟩
section KMETS
variable {l : Launch} {cl : List vw_C} {aty : List FieldType} {nw lg : List Cond} {sk : kSk} {cA aS : Nat → Nat} {mt : List kMd} {X : State → Heap → Prop} {lo : Nat}
variable {D : va_G} {tt : List kT} {Ty : Nat → Nat → Prop} {ct : List kCt} {ow : kOw} {C : kCt} {B : kBd}
/-- a body that the checker takes keeps its contract -/
theorem kbody_met {y : MethodName} {b : ByteArray} {mL n : Nat} {r : Option FieldType} {w : Instr × Nat} {t : kCd} (hy : plainFor y = true) (hmt : mt[C.1]? = some (y, b, mL, r)) (hR : kRest l cl aty lg nw sk mt D cA aS tt Ty lo X ct y.cls ow C.2.2.2.2.2) (hcode : ∀ q ∈ B.1, decode b q.1 = .ok (q.2.1, q.2.2)) (hst : B.1 = (0, w) :: t) (hbody : kbody (kEof tt aty ct ow mL r C) B n = true) : kMet l cl aty lg nw sk mt D cA aS tt Ty lo X C := by
  intro y' b' mL' r' hmt' zs as vs
  have e0 : (y', b', mL', r') = (y, b, mL, r) := Option.some.inj (hmt'.symm.trans hmt)
  obtain ⟨rfl, rfl, rfl, rfl⟩ : y' = y ∧ b' = b ∧ mL' = mL ∧ r' = r := by
    simpa using e0
  refine Met.ofWF (cc := b') (maxL := mL') (ret := r') hy rfl ?_
  intro p e s m args below meth c s₁ Bd hml hv
  obtain ⟨⟨rfl, hsl⟩, hK, hXs, hG, lv', hs0, hsub⟩ := hv
  have hts : ∀ w ∈ lg, w.before vs.toArray s = true := fun w hw => atoms_spec (ws := Cond.code y' b' mL' r' :: lg) Bd.pre w (List.mem_cons_of_mem _ hw)
  have hown : s.vm.findClass y'.cls = some m.cls := findClass_of_methodNamed Bd.named
  have hP : C.2.1.1.length = zs.length := hs0.1.1.symm
  have hP2 : C.2.1.2.1.length = as.length := hs0.2.2.1.1.symm
  have hlv0 := lv_entry vs hsl
  have hlv : lv_has ((lg_sl vs ++ List.replicate (mL' - (lg_sl vs).length) Slot.unset).toArray) mL' lv' := ⟨hlv0.1, hlv0.2.1, fun q hq => hlv0.2.2 q (hsub q hq)⟩
  have hm : kmov D cA tt Ty lo C.2.2.2.2.1 s.heap s.heap [] := ⟨hG, kfr_rfl, kkp_rfl, fun q hq => by cases hq⟩
  unfold kbody at hbody
  split at hbody
  case h_2 => cases hbody
  rename_i hb0
  have cuts : ∀ (N : Nat) (cu : kCut) (x : List Int) (u : List Nat) (H : Heap) (locs : List Loc) (lv : List (Nat × Value)) (st : List Value) (ls : Array Slot) (z : Int), cu ∈ B.2.2.2 → kst D cA tt Ty (zs ++ x) (as ++ u) cu.2.1.1 H lv st → lv_has ls mL' lv → kmov D cA tt Ty lo C.2.2.2.2.1 s.heap H locs → kev (zs ++ x) cu.2.2 = some z → 0 ≤ z → z < N → W p l e (krm C.2.2.2.2.2) s m vs.toArray below meth c H locs 0 0 (MQ below (kQc D cA tt Ty lo C zs as) vs.toArray s 0 0 (fun q => lo ≤ q)) (F0 m cu.1 ls st) := by
    intro N
    induction N with
    | zero => intro cu x u H locs lv st ls z _ _ _ _ _ h0 h1; omega
    | succ N ih =>
      intro cu x u H locs lv st ls z hcu h1 h2 h3 h4 h5 h6
      have hb1 := List.all_eq_true.mp hbody cu hcu
      split at hb1
      · rename_i cur hcur
        obtain ⟨g1, ins, len, t2, g2⟩ := kdrop_ok hcur
        refine kexec_ok (x0 := x) (rb := some cu.2.2) Bd.exec Bd.bytes hml hown hts Bd.returns Bd.notSynchronized hK hXs hR hP hP2 hcode (fun cu2 x2 u2 H2 locs2 lv2 st2 ls2 z2 w1 w2 w3 w4 w5 w6 w7 => ?_) n false cur cu.2.1.1 x u H locs lv st ls cu.1 (ins, len) t2 hb1 g2 g1 ⟨[], by simp⟩ h1 h2 h3
        have := w7 _ _ rfl h4
        exact ih cu2 x2 u2 H2 locs2 lv2 st2 ls2 z2 w1 w2 w3 w4 w5 w6 (by omega)
      · cases hb1
  show W p l e (krm C.2.2.2.2.2) s m vs.toArray below meth c s.heap [] 0 0 _ (entryFrame m vs.toArray mL')
  rw [lg_entry_eq]
  refine kexec_ok (x0 := []) (rb := none) Bd.exec Bd.bytes hml hown hts Bd.returns Bd.notSynchronized hK hXs hR hP hP2 hcode (fun cu2 x2 u2 H2 locs2 lv2 st2 ls2 z2 w1 w2 w3 w4 w5 w6 _ => cuts (z2.toNat + 1) cu2 x2 u2 H2 locs2 lv2 st2 ls2 z2 w1 w2 w3 w4 w5 w6 (by omega)) n false B.1 C.2.1 [] [] s.heap [] lv' [] _ 0 w t hb0 hst (fun q hq => hq) ⟨[], rfl⟩ (by rw [List.append_nil, List.append_nil]; exact hs0) hlv hm
/-- all contracts, by their depths: each kept by its body, or by a walk of its own -/
theorem kall_met (h : ∀ (i : Nat) (C : kCt), ct[i]? = some C → (∀ (j : Nat) (C' : kCt), ct[j]? = some C' → C'.2.2.2.2.2 < C.2.2.2.2.2 → kMet l cl aty lg nw sk mt D cA aS tt Ty lo X C') → kMet l cl aty lg nw sk mt D cA aS tt Ty lo X C) : ∀ (i : Nat) (C : kCt), ct[i]? = some C → kMet l cl aty lg nw sk mt D cA aS tt Ty lo X C := by
  have key : ∀ (d i : Nat) (C : kCt), ct[i]? = some C → C.2.2.2.2.2 < d → kMet l cl aty lg nw sk mt D cA aS tt Ty lo X C := by
    intro d
    induction d with
    | zero => intro i C _ h0; omega
    | succ d ih => exact fun i C hi hd => h i C hi (fun j C' hj hlt => ih j C' hj (by omega))
  exact fun i C hi => key (C.2.2.2.2.2 + 1) i C hi (by omega)
end KMETS
