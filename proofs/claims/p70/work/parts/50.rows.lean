/-! WHAT IS KNOWN OF THE TABLES: names and slots, array types, links between nest mates, String constants -/
abbrev kSk : Type := List (String × Nat × String)
def kK (cl : List vw_C) (aty : List FieldType) (nw : List Cond) (sk : kSk) (D : va_G) (cA aS : Nat → Nat) (U : State) : Prop :=
  (∀ (ci : Nat) (q : vw_C), cl[ci]? = some q → u_Kn U q.1 q.2.1 q.2.2 (D.1 ci) (D.2 ci)) ∧ (∀ (k : Nat) (ty : FieldType), aty[k]? = some ty → ArrOfT U (cA k) ty) ∧ (∀ w ∈ nw, va_Nw w U) ∧ ∀ (i : Nat) (q : String × Nat × String), sk[i]? = some q → vk_R q.1 q.2.1 q.2.2 (aS i) U
def kNest (nw : List Cond) : Prop := ∀ w ∈ nw, ∃ a i x h, w = .methodLinkNest a i x h
theorem kK_warm {cl : List vw_C} {aty : List FieldType} {nw : List Cond} {sk : kSk} {D : va_G} {cA aS : Nat → Nat} {s U : State} (hn : kNest nw) (hW : s.WarmedH U.vm) (h : kK cl aty nw sk D cA aS s) : kK cl aty nw sk D cA aS U := by
  refine ⟨fun ci q hq => u_Kn_moved hW.alike (h.1 ci q hq), fun k ty hk => arrOfT_moved hW.alike (h.2.1 k ty hk), fun w hw => ?_, fun i q hq => vk_R.warm hW (h.2.2.2 i q hq)⟩
  obtain ⟨a, i, x, y, rfl⟩ := hn w hw
  exact va_Nw.warmM hW (h.2.2.1 _ hw)
theorem kK_call {cl : List vw_C} {aty : List FieldType} {nw : List Cond} {sk : kSk} {D : va_G} {cA aS : Nat → Nat} {U : State} {g : JFrame} {mk : MethodId} {a : Array Value} (hn : kNest nw) (h : kK cl aty nw sk D cA aS U) : kK cl aty nw sk D cA aS (U.calling g mk a) := by
  refine ⟨fun ci q hq => u_Kn_moved (Vm.Alike.refl U.vm) (h.1 ci q hq), fun k ty hk => arrOfT_moved (Vm.Alike.refl U.vm) (h.2.1 k ty hk), fun w hw => ?_, fun i q hq => vk_R.same (u := U) rfl (h.2.2.2 i q hq)⟩
  obtain ⟨a', i, x, y, rfl⟩ := hn w hw
  exact va_Nw.same rfl (u := U) rfl (h.2.2.1 _ hw)
/-- the list of names, as the tables have them -/
def kclok (cl : List vw_C) (lw : List Cond) : Prop := ∀ (ci : Nat) (C : String) (Tf : u_T) (N : Nat), cl[ci]? = some (C, Tf, N) → (∃ ty0 : Nat → FieldType, (∀ k, k < N → parseFieldDescriptor (Tf k).2.2.1 = some (ty0 k)) ∧ ∀ a, a < N → ∀ b, b < N → a ≠ b → (Tf a).2.1 ≠ (Tf b).2.1) ∧ ∀ w ∈ u_ws C Tf N, w ∈ lw
section KROW
variable {p : Program} {l : Launch} {e : Env} {R : Room} {s : State} {m : MethodId} {args : Array Value} {below : List Frame} {meth : Method} {c : Code} {H : Heap} {locs : List Loc} {cells slots : Nat} {Q : State → Prop}
variable {cc : ByteArray} {pc : Nat} {ls : Array Slot} {rest : List Value} {cl : List vw_C} {aty : List FieldType} {nw lw : List Cond} {sk : kSk} {D : va_G} {cA aS : Nat → Nat} {T : kT} {a : Nat} {V : Nat → Value}
theorem r_get (hexec : p.tables.exec = Jvm.exec) (hb : c.code = cc) {own C : String} {Tf : u_T} {N index j : Nat} (hts : ∀ w ∈ lw, w.before args s = true) (hcl : kclok cl lw) (hown : s.vm.findClass own = some m.cls) (hK : kK cl aty nw sk D cA aS s) (hc : cl[T.1]? = some (C, Tf, N)) (hk : Nat.blt T.1 100 = true) (hj : j < N) (hjT : j < T.2.1) (hlink : (Cond.fieldLink own index (Tf j).1 (Tf j).2.1 (Tf j).2.2.1).before args s = true) (hcell : kcell D cA T a H V) (hdg : decode cc pc = .ok (.getfield index, 3))
    (kk : W p l e R s m args below meth c H locs cells slots Q (F0 m (pc + 3) ls (V j :: rest))) : W p l e R s m args below meth c H locs cells slots Q (F0 m pc ls (.ref a :: rest)) := by
  unfold kcell at hcell
  rw [hk] at hcell
  obtain ⟨cell, q1, q2, q3, q4⟩ := hcell
  obtain ⟨hS, hfc, kC, hkC, hkind⟩ := hK.1 T.1 _ hc
  obtain ⟨cf, kf, fi, f, hi, hsl⟩ := hS j hj
  refine W.getf hexec hb hown hlink hi (u_facts hfc hkC (u_lays hts (hcl _ _ _ _ hc).2 hj) hi).1 q1 (by rw [q3]; exact fun h => by cases h) (v := V j) ?_ rfl rfl hdg kk
  rw [hsl]
  exact q4 j hjT
theorem r_put (hexec : p.tables.exec = Jvm.exec) (hb : c.code = cc) {own C : String} {Tf : u_T} {N index j : Nat} {ty : FieldType} {v : Value} (hts : ∀ w ∈ lw, w.before args s = true) (hcl : kclok cl lw) (hown : s.vm.findClass own = some m.cls) (hK : kK cl aty nw sk D cA aS s) (hc : cl[T.1]? = some (C, Tf, N)) (hk : Nat.blt T.1 100 = true) (hj : j < N) (hN : T.2.1 = N) (hlink : (Cond.fieldLink own index (Tf j).1 (Tf j).2.1 (Tf j).2.2.1).before args s = true) (hfin : (Tf j).2.2.2 = false) (hd : parseFieldDescriptor (Tf j).2.2.1 = some ty) (hn : narrow ty v = v) (hfit : fits ty v = true) (hcell : kcell D cA T a H V) (hdg : decode cc pc = .ok (.putfield index, 3))
    (kk : ∀ (H1 : Heap) (i : Nat), kcell D cA T a H1 (updV V j v) → H1.size = H.size → (∀ q, q ≠ a → H1[q]? = H[q]?) → W p l e R s m args below meth c H1 (locs ++ [⟨a, i⟩]) cells slots Q (F0 m (pc + 3) ls rest)) : W p l e R s m args below meth c H locs cells slots Q (F0 m pc ls (v :: .ref a :: rest)) := by
  unfold kcell at hcell kk
  rw [hk] at hcell kk
  obtain ⟨cell, q1, q2, q3, q4⟩ := hcell
  obtain ⟨hS, hfc, kC, hkC, hkind⟩ := hK.1 T.1 _ hc
  obtain ⟨⟨ty0, hty, hnm⟩, hin⟩ := hcl _ _ _ _ hc
  have hap := va_apart (own := own) (D := D) (cl := cl) (tys := []) hts hin ty0 hty hnm ⟨hK.1, fun k q h => by simp at h⟩ hc
  obtain ⟨cf, kf, fi, f, hi, hsl⟩ := hS j hj
  have hlay := hts _ (hin _ (u_in_lay hj))
  unfold u_lay at hlay
  rw [if_neg (by rw [hfin]; decide)] at hlay
  have hst := (u_facts hfc hkC (u_lays hts hin hj) hi).1
  have h6 := u_store hfc hkC hkind hlay hi hd hn hfit
  refine W.putK hexec hb (f := f) ⟨hown, hlink, ⟨_, _, _, hi⟩, hst⟩ (by rw [q2]; exact h6) q1 q3 (by rw [hsl]; exact k2_hasslot (q4 j (by rw [hN]; exact hj))) rfl rfl hdg fun H' e1 e2 e3 => ?_
  rw [hsl] at e1
  rw [hsl]
  exact kk H' _ ⟨_, e1, q2, q3, t_set q4 (by rw [hN]; exact hap) (by rw [hN]; exact hj) v⟩ e2 e3
/-- which loads fit which arrays -/
def klt (ins : Instr) (ty : FieldType) : Bool := match ins, ty with
  | .iaload, .int => true
  | .baload, .boolean => true
  | .baload, .byte => true
  | .laload, .long => true
  | .aaload, .object _ => true
  | _, _ => false
theorem r_ald (hexec : p.tables.exec = Jvm.exec) (hb : c.code = cc) (hK : kK cl aty nw sk D cA aS s) {ins : Instr} {ty : FieldType} (ht : aty[T.1 - 100]? = some ty) (hk : Nat.blt T.1 100 = false) (hl : klt ins ty = true) {i : Int32} {z : Nat} (hi : i.toInt = (z : Int)) (hz : z < T.2.1) (hcell : kcell D cA T a H V) (hdg : decode cc pc = .ok (ins, 1))
    (kk : W p l e R s m args below meth c H locs cells slots Q (F0 m (pc + 1) ls (V z :: rest))) : W p l e R s m args below meth c H locs cells slots Q (F0 m pc ls (.int i :: .ref a :: rest)) := by
  unfold kcell at hcell
  rw [hk] at hcell
  have hn : i.toNatClampNeg = z := by
    show i.toInt.toNat = z
    rw [hi]; rfl
  have h0 : ¬ (i < 0 ∨ (arrV (cA (T.1 - 100)) T.2.1 V).slots.size ≤ i.toNatClampNeg) := by
    rw [arrV_size, hn, Int32.lt_iff_toInt_lt, hi]
    show ¬ ((z : Int) < 0 ∨ T.2.1 ≤ z)
    omega
  have hr : (arrV (cA (T.1 - 100)) T.2.1 V).slots[i.toNatClampNeg]? = some (V z) := by rw [hn]; exact arrV_read _ _ hz
  have hA := hK.2.1 _ _ ht T.2.1 V
  unfold klt at hl
  split at hl
  · exact W.iald hexec hb hcell hA (fun q => by cases q) h0 hr rfl rfl hdg kk
  · exact W.zald hexec hb hcell hA (fun q => by cases q) h0 hr rfl rfl hdg kk
  · exact W.bald hexec hb hcell hA (fun q => by cases q) h0 hr rfl rfl hdg kk
  · exact W.lald hexec hb hcell hA (fun q => by cases q) h0 hr rfl rfl hdg kk
  · exact W.aald hexec hb hcell hA rfl (fun q => by cases q) h0 hr rfl rfl hdg kk
  · cases hl
/-- which stores fit which arrays -/
def kstt (ins : Instr) (ty : FieldType) : Bool := match ins, ty with
  | .iastore, .int => true
  | .bastore, .boolean => true
  | .bastore, .byte => true
  | .lastore, .long => true
  | _, _ => false
/-- a value that stays as it is when it is stored as of a type -/
def kfix (ty : FieldType) (v : Value) : Prop := match ty, v with
  | .int, .int _ => True
  | .long, .long _ => True
  | .boolean, .int n => 0 ≤ n.toInt ∧ n.toInt ≤ 1
  | .byte, .int n => -128 ≤ n.toInt ∧ n.toInt ≤ 127
  | _, _ => False
theorem kfix_narrow {ty : FieldType} {v : Value} (h : kfix ty v) : narrow ty v = v ∧ fits ty v = true := by
  unfold kfix at h
  split at h
  · exact ⟨rfl, rfl⟩
  · exact ⟨rfl, rfl⟩
  · rename_i n
    have e : n = 0 ∨ n = 1 := by
      have h1 : n.toInt = 0 ∨ n.toInt = 1 := by omega
      rcases h1 with h1 | h1
      · exact Or.inl (Int32.toInt_inj.mp (by rw [h1]; rfl))
      · exact Or.inr (Int32.toInt_inj.mp (by rw [h1]; rfl))
    rcases e with rfl | rfl
    · exact ⟨by decide +kernel, by decide +kernel⟩
    · exact ⟨by decide +kernel, by decide +kernel⟩
  · rename_i n
    have e : n = n.toInt8.toInt32 := by
      apply Int32.toInt_inj.mp
      exact (k_i2b h.1 h.2).symm
    rw [e]
    exact ⟨pk_nb n, pk_fb n⟩
  · exact h.elim
theorem r_ast (hexec : p.tables.exec = Jvm.exec) (hb : c.code = cc) (hK : kK cl aty nw sk D cA aS s) {ins : Instr} {ty : FieldType} {v : Value} (ht : aty[T.1 - 100]? = some ty) (hk : Nat.blt T.1 100 = false) (hl : kstt ins ty = true) (hv : kfix ty v) {i : Int32} {z : Nat} (hi : i.toInt = (z : Int)) (hz : z < T.2.1) (hcell : kcell D cA T a H V) (hdg : decode cc pc = .ok (ins, 1))
    (kk : ∀ (H1 : Heap) (q0 : Nat), kcell D cA T a H1 (updV V z v) → H1.size = H.size → (∀ q, q ≠ a → H1[q]? = H[q]?) → W p l e R s m args below meth c H1 (locs ++ [⟨a, q0⟩]) cells slots Q (F0 m (pc + 1) ls rest)) : W p l e R s m args below meth c H locs cells slots Q (F0 m pc ls (v :: .int i :: .ref a :: rest)) := by
  unfold kcell at hcell kk
  rw [hk] at hcell kk
  have hn : i.toNatClampNeg = z := by
    show i.toInt.toNat = z
    rw [hi]; rfl
  have h0 : ¬ (i < 0 ∨ (arrV (cA (T.1 - 100)) T.2.1 V).slots.size ≤ i.toNatClampNeg) := by
    rw [arrV_size, hn, Int32.lt_iff_toInt_lt, hi]
    show ¬ ((z : Int) < 0 ∨ T.2.1 ≤ z)
    omega
  have hA := hK.2.1 _ _ ht T.2.1 V
  obtain ⟨hn1, -⟩ := kfix_narrow hv
  have hs : ∀ x : Value, (arrV (cA (T.1 - 100)) T.2.1 V).setSlot i.toNatClampNeg x = arrV (cA (T.1 - 100)) T.2.1 (updV V z x) := fun x => by rw [hn]; exact arrV_store _ _ _ _ _
  unfold kstt at hl
  split at hl
  · match v, hv with
    | .int n, _ => exact W.iast hexec hb hcell hA (fun q => by cases q) h0 rfl rfl hdg fun H' e1 e2 e3 => kk H' _ (by rw [← hs]; exact e1) e2 e3
  · match v, hv, hn1 with
    | .int n, _, hn1 => exact W.zast hexec hb hcell hA (fun q => by cases q) h0 rfl rfl hdg fun H' e1 e2 e3 => kk H' _ (by rw [hn1, hs] at e1; exact e1) e2 e3
  · match v, hv, hn1 with
    | .int n, _, hn1 => exact W.bast hexec hb hcell hA (fun q => by cases q) h0 rfl rfl hdg fun H' e1 e2 e3 => kk H' _ (by rw [hn1, hs] at e1; exact e1) e2 e3
  · match v, hv with
    | .long n, _ => exact W.last hexec hb hcell hA (fun q => by cases q) h0 rfl rfl hdg fun H' e1 e2 e3 => kk H' _ (by rw [← hs]; exact e1) e2 e3
  · cases hl
end KROW
