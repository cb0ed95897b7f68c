/-! CONSTRUCTORS: rows over cells -/
section KCROW
variable {p : Program} {l : Launch} {e : Env} {R : Room} {s : State} {m : MethodId} {args : Array Value} {below : List Frame} {meth : Method} {c : Code} {H : Heap} {locs : List Loc} {cells slots : Nat} {Q : State → Prop}
variable {cc : ByteArray} {pc : Nat} {ls : Array Slot} {rest : List Value} {cl : List vw_C} {tys : List (ClassId × FieldType)} {lw : List Cond} {D : va_G} {cA : Nat → Nat} {a : Nat} {V : Nat → Value}
/-- a new object -/
theorem q_new (hexec : p.tables.exec = Jvm.exec) (hb : c.code = cc) {own C : String} {Tf : u_T} {N ci index : Nat} (hts : ∀ w ∈ lw, w.before args s = true) (hcl : kclok cl lw) (hown : s.vm.findClass own = some m.cls) (hlk : Cond.classLink own index C ∈ lw) (hin : Cond.instantiable C N ∈ lw) (hini : Cond.initialized C ∈ lw) (hK : va_K D cl tys s) (hc : cl[ci]? = some (C, Tf, N)) (h100 : Nat.blt ci 100 = true) (hcells : cells + 1 ≤ R.cells) (hslots : slots + N ≤ R.slots) (hdg : decode cc pc = .ok (.new index, 3))
    (kk : ∀ (H1 : Heap) (V : Nat → Value), kcell D cA (ci, N, [], []) H.size H1 V → (∀ j, j < N → ∃ ty, parseFieldDescriptor (Tf j).2.2.1 = some ty ∧ V j = defaultValue ty) → H1.size = H.size + 1 → (∀ q, q < H.size → H1[q]? = H[q]?) → W p l e R s m args below meth c H1 locs (cells + 1) (slots + N) Q (F0 m (pc + 3) ls (.ref H.size :: rest))) : W p l e R s m args below meth c H locs cells slots Q (F0 m pc ls rest) := by
  have hKn := hK.1 ci _ hc
  obtain ⟨⟨ty0, hty, -⟩, hin2⟩ := hcl _ _ _ _ hc
  refine W.newcK hexec hb hown (hts _ hlk) (hts _ hin) (hts _ hini) rfl hdg hcells hslots hKn.2.1 rfl fun H1 kC hkC e1 z1 o1 => ?_
  refine kk H1 (fun k => defaultValue (ty0 k)) ?_ (fun j hj => ⟨ty0 j, hty j hj, rfl⟩) z1 o1
  unfold kcell
  rw [h100]
  exact u_born ty0 hts hin2 hKn hkC e1 hty
/-- a new row of numbers -/
theorem q_newa (hexec : p.tables.exec = Jvm.exec) (hb : c.code = cc) {atype : ArrayType} {k N : Nat} {ty : FieldType} (hts : ∀ w ∈ lw, w.before args s = true) (hty : newarray.typeOf atype = ty) (hobj : ∀ C, ty ≠ .object C) (harr : Cond.arrayClass ty ∈ lw) (hK : va_K D cl tys s) (hk : tys[k]? = some (cA k, ty)) {n : Int32} (hn : n.toInt = (N : Int)) (hbytes : N * componentBytes ty ≤ 536870912) (hcells : cells + 1 ≤ R.cells) (hslots : slots + N ≤ R.slots) (hdg : decode cc pc = .ok (.newarray atype, 2))
    (kk : ∀ (H1 : Heap), kcell D cA (100 + k, N, [], []) H.size H1 (fun _ => defaultValue ty) → H1.size = H.size + 1 → (∀ q, q < H.size → H1[q]? = H[q]?) → W p l e R s m args below meth c H1 locs (cells + 1) (slots + N) Q (F0 m (pc + 2) ls (.ref H.size :: rest))) : W p l e R s m args below meth c H locs cells slots Q (F0 m pc ls (.int n :: rest)) := by
  subst hty
  have hN : n.toNatClampNeg = N := by
    show n.toInt.toNat = N
    rw [hn]; rfl
  refine va_newaK hexec hb (hts _ harr) rfl hdg rfl (by rw [Int32.lt_iff_toInt_lt, hn]; show ¬ ((N : Int) < 0); omega) hN hbytes hcells hslots rfl fun H1 cB e1 z1 o1 hAr hNm => ?_
  have hE : cB = cA k := by
    have h2 := (hK.2 k _ hk).2
    have h3 : s.vm.findClass ("[" ++ (newarray.typeOf atype).toString) = some (cA k) := by
      unfold va_RA at h2
      split at h2
      · rename_i C hC
        exact absurd hC (hobj C)
      · exact h2
    exact Option.some.inj (hNm.symm.trans h3)
  subst hE
  refine kk H1 ?_ z1 o1
  unfold kcell
  rw [show Nat.blt (100 + k) 100 = false from by
    cases hb2 : Nat.blt (100 + k) 100 with
    | false => rfl
    | true => have := Nat.blt_eq.mp hb2; omega]
  show H1[H.size]? = some (arrV (cA (100 + k - 100)) N _)
  rw [Nat.add_sub_cancel_left]
  exact e1
/-- a new row of references -/
theorem q_anew (hexec : p.tables.exec = Jvm.exec) (hb : c.code = cc) {own C : String} {index k N : Nat} (hts : ∀ w ∈ lw, w.before args s = true) (hown : s.vm.findClass own = some m.cls) (hlk : Cond.classLink own index C ∈ lw) (hover : va_AO C s) (hK : va_K D cl tys s) (hk : tys[k]? = some (cA k, .object C)) {n : Int32} (hn : n.toInt = (N : Int)) (hbytes : N * 4 ≤ 536870912) (hcells : cells + 1 ≤ R.cells) (hslots : slots + N ≤ R.slots) (hdg : decode cc pc = .ok (.anewarray index, 3))
    (kk : ∀ (H1 : Heap), kcell D cA (100 + k, N, [], []) H.size H1 (fun _ => .null) → H1.size = H.size + 1 → (∀ q, q < H.size → H1[q]? = H[q]?) → W p l e R s m args below meth c H1 locs (cells + 1) (slots + N) Q (F0 m (pc + 3) ls (.ref H.size :: rest))) : W p l e R s m args below meth c H locs cells slots Q (F0 m pc ls (.int n :: rest)) := by
  have hN : n.toNatClampNeg = N := by
    show n.toInt.toNat = N
    rw [hn]; rfl
  subst hN
  refine W.anew hexec hb hown (hts _ hlk) (va_AO.use hover) rfl hdg rfl (by rw [Int32.lt_iff_toInt_lt, hn]; show ¬ (((n.toNatClampNeg : Nat) : Int) < 0); omega) hbytes hcells hslots fun cB kA comp f1 f2 f3 f4 => ?_
  generalize hH1 : H.push ({ cls := cB, slots := Array.replicate n.toNatClampNeg .null, vm := .none } : Cell) = H1
  have z1 : H1.size = H.size + 1 := by rw [← hH1, Array.size_push]
  have e1 : H1[H.size]? = some (arrV cB n.toNatClampNeg (fun _ => .null)) := by rw [← hH1, Array.getElem?_push_size, ← arrV_new]
  have o1 : ∀ q : Nat, q < H.size → H1[q]? = H[q]? := fun q hq => by rw [← hH1, Array.getElem?_push, if_neg (Nat.ne_of_lt hq)]
  have hE : cB = cA k := by
    obtain ⟨-, -, -, -, -, h4⟩ := (hK.2 k _ hk).2
    exact Option.some.inj (f1.symm.trans h4)
  subst hE
  refine kk H1 ?_ z1 o1
  unfold kcell
  rw [show Nat.blt (100 + k) 100 = false from by
    cases hb2 : Nat.blt (100 + k) 100 with
    | false => rfl
    | true => have := Nat.blt_eq.mp hb2; omega]
  show H1[H.size]? = some (arrV (cA (100 + k - 100)) n.toNatClampNeg _)
  rw [Nat.add_sub_cancel_left]
  exact e1
/-- a final field in a constructor -/
theorem q_putF (hexec : p.tables.exec = Jvm.exec) (hb : c.code = cc) {own C : String} {Tf : u_T} {N ci index j : Nat} {ty : FieldType} {v : Value} (hts : ∀ w ∈ lw, w.before args s = true) (hcl : kclok cl lw) (hown : s.vm.findClass own = some m.cls) (hK : va_K D cl tys s) (hc : cl[ci]? = some (C, Tf, N)) (hk : Nat.blt ci 100 = true) (hj : j < N) (hlink : (Cond.fieldLink own index (Tf j).1 (Tf j).2.1 (Tf j).2.2.1).before args s = true) (hfin : (Tf j).2.2.2 = true) (hin2 : meth.name = "<init>") (hdecl : (Tf j).1 = own) (hd : parseFieldDescriptor (Tf j).2.2.1 = some ty) (hn : narrow ty v = v) (hfit : fits ty v = true) (hcell : kcell D cA (ci, N, [], []) a H V) (hdg : decode cc pc = .ok (.putfield index, 3))
    (kk : ∀ (H1 : Heap) (i : Nat), kcell D cA (ci, N, [], []) a H1 (updV V j v) → H1.size = H.size → (∀ q, q ≠ a → H1[q]? = H[q]?) → W p l e R s m args below meth c H1 (locs ++ [⟨a, i⟩]) cells slots Q (F0 m (pc + 3) ls rest)) : W p l e R s m args below meth c H locs cells slots Q (F0 m pc ls (v :: .ref a :: rest)) := by
  unfold kcell at hcell kk
  rw [show Nat.blt (ci, N, ([] : List kRun), ([] : List kSelf)).1 100 = true from hk] at hcell kk
  obtain ⟨cell, q1, q2, q3, q4⟩ := hcell
  obtain ⟨hS, hfc, kC, hkC, hkind⟩ := hK.1 ci _ hc
  obtain ⟨⟨ty0, hty, hnm⟩, hin⟩ := hcl _ _ _ _ hc
  have hap := va_apart (own := own) hts hin ty0 hty hnm hK hc
  obtain ⟨cf, kf, fi, f, hi, hsl⟩ := hS j hj
  have hlay := hts _ (hin _ (u_in_lay hj))
  unfold u_lay at hlay
  rw [if_pos hfin] at hlay
  have hst := (u_facts hfc hkC (u_lays hts hin hj) hi).1
  have hcf : m.cls = cf := by
    obtain ⟨_, _, c', _, _, _, -, -, hf', -, -, -, hown2, -⟩ := Cond.laysFinal_spec hlay
    have e1 : c' = cf := by have := hi.symm.trans hf'; simp at this; exact this.1.symm
    rw [hdecl] at hown2
    rw [← e1]; exact Option.some.inj (hown.symm.trans hown2)
  have h6 := u_fits hfc hkC hkind (Or.inr hlay) hi hd hn hfit
  refine W.putFinK hexec hb hown hlink hi hst hcf hin2 (by rw [q2]; exact h6) q1 q3 (by rw [hsl]; exact k2_hasslot (q4 j hj)) rfl rfl hdg fun H' e1 e2 e3 => ?_
  rw [hsl] at e1 ⊢
  exact kk H' _ ⟨_, e1, q2, q3, t_set q4 hap hj v⟩ e2 e3
/-- an object into a row of such -/
theorem q_aast (hexec : p.tables.exec = Jvm.exec) (hb : c.code = cc) {C : String} {Tf : u_T} {N N2 ci k n v z : Nat} {Vv : Nat → Value} (hK : va_K D cl tys s) (hk : tys[k]? = some (cA k, .object C)) (hc : cl[ci]? = some (C, Tf, N)) (h100 : Nat.blt ci 100 = true) (hv : kcell D cA (ci, N2, [], []) v H Vv) (hcell : kcell D cA (100 + k, n, [], []) a H V) {i : Int32} (hi : i.toInt = (z : Int)) (hz : z < n) (hdg : decode cc pc = .ok (.aastore, 1))
    (kk : ∀ (H1 : Heap) (i : Nat), kcell D cA (100 + k, n, [], []) a H1 (updV V z (.ref v)) → H1.size = H.size → (∀ q, q ≠ a → H1[q]? = H[q]?) → W p l e R s m args below meth c H1 (locs ++ [⟨a, i⟩]) cells slots Q (F0 m (pc + 1) ls rest)) : W p l e R s m args below meth c H locs cells slots Q (F0 m pc ls (.ref v :: .int i :: .ref a :: rest)) := by
  have hb1 : Nat.blt (100 + k) 100 = false := by
    cases hb2 : Nat.blt (100 + k) 100 with
    | false => rfl
    | true => have := Nat.blt_eq.mp hb2; omega
  unfold kcell at hv hcell kk
  rw [show Nat.blt (ci, N2, ([] : List kRun), ([] : List kSelf)).1 100 = true from h100] at hv
  rw [show Nat.blt (100 + k, n, ([] : List kRun), ([] : List kSelf)).1 100 = false from hb1] at hcell kk
  dsimp only at hcell kk
  rw [Nat.add_sub_cancel_left] at hcell kk
  obtain ⟨cellV, g1, g2, g3, -⟩ := hv
  have hN : i.toNatClampNeg = z := by
    show i.toInt.toNat = z
    rw [hi]; rfl
  have hcls := (hK.1 ci _ hc).2
  obtain ⟨kA, comp, k1, k2, k3, -⟩ := (hK.2 k _ hk).2
  have hcomp : comp = D.1 ci := Option.some.inj (k3.symm.trans hcls.1)
  subst hcomp
  obtain ⟨kC, hkC, -⟩ := hcls.2
  refine W.aast hexec hb hcell (fun q h => by cases h) (fun h => by cases h) k1 k2 rfl hkC ⟨by rw [Int32.lt_iff_toInt_lt, hi]; show ¬ ((z : Int) < 0); omega, by show _ < (arrV _ _ _).slots.size; rw [arrV_size, hN]; exact hz⟩ g1 (fun q h => by rw [g3] at h; cases h) (by rw [g2]; exact hkC) (by rw [g2]; exact va_assign hcls) rfl rfl hdg fun H1 e1 z1 o1 => ?_
  refine kk H1 _ ?_ z1 o1
  rw [e1, hN]
  rw [arrV_store]
end KCROW
