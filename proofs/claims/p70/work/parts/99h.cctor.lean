/-! all constructors of the table -/
/-- what every constructor rests on -/
def cBase (l : Launch) (cl : List vw_C) (aty : List FieldType) (lg nw : List Cond) (ao : List String) (tab : List cEn) : Prop :=
  (∀ w ∈ lg, goodWord w = true) ∧ kNest nw ∧ kclok cl lg ∧ aty = [.int, .boolean, .byte, .long, .object "SilenceMatch$Row", .object "SilenceMatch$Green", .object "SilenceMatch$Acts"] ∧ ((∃ Tf N, cl[7]? = some ("SilenceMatch$Row", Tf, N)) ∧ (∃ Tf N, cl[3]? = some ("SilenceMatch$Green", Tf, N)) ∧ ∃ Tf N, cl[0]? = some ("SilenceMatch$Acts", Tf, N)) ∧ (Cond.arrayClass .int ∈ lg ∧ Cond.arrayClass .boolean ∈ lg ∧ Cond.arrayClass .byte ∈ lg ∧ Cond.arrayClass .long ∈ lg) ∧ (Cond.instanceMethod Lib.objectInit ∈ lg ∧ Cond.code Lib.objectInit ⟨#[0xb1]⟩ 1 none ∈ lg) ∧ ∀ (i : Nat) (E : cEn), tab[i]? = some E → cEok E lg ∧ cPok E.1.1.cls E.2.1 cl aty lg ao ∧ cPoM E.1.1.cls E.2.1 tab lg nw ∧ (∀ q ∈ E.2.2.1, decode E.1.2.1 q.1 = .ok (q.2.1, q.2.2)) ∧ plainName E.1.1.cls = true ∧ E.2.2.2.1 + 1 ≤ E.1.2.2.1
section CCTOR
variable {p : Program} {l : Launch} {e : Env} {s : State} {m : MethodId} {args : Array Value} {below : List Frame} {meth : Method} {c : Code} {H0 : Heap}
variable {cl : List vw_C} {aty : List FieldType} {nw lg : List Cond} {ao : List String} {tys : List (ClassId × FieldType)} {D : va_G} {cA : Nat → Nat} {tab : List cEn}
set_option maxHeartbeats 4000000 in
theorem cbody_ok {E : cEn} {call : Nat → List cCell → List cV → Option (List cCell)} {n : Nat} {cs' : List cCell} (hB : cBase l cl aty lg nw ao tab) (hE : cPok E.1.1.cls E.2.1 cl aty lg ao ∧ cPoM E.1.1.cls E.2.1 tab lg nw ∧ ∀ q ∈ E.2.2.1, decode E.1.2.1 q.1 = .ok (q.2.1, q.2.2)) (hexec : p.tables.exec = Jvm.exec) (hb : c.code = E.1.2.1) (hml : c.maxLocals = E.1.2.2.1) (hown : s.vm.findClass E.1.1.cls = some m.cls) (hts : ∀ w ∈ lg, w.before args s = true) (hin2 : meth.name = "<init>") (hrt : meth.sig.returnType = none) (hlk : meth.locks = false) (hK : cKn cl aty nw ao D cA tys s)
    (hcall : ∀ (i : Nat) (C : cEn) (cs : List cCell) (vs : List cV) (cs1 : List cCell), tab[i]? = some C → C.2.2.2.2.1 < E.2.2.2.2.1 → call i cs vs = some cs1 → cMet l cl aty lg nw ao D cA tys n H0 C cs vs cs1) :
    ∀ (f pc : Nat) (S : cSt) (H : Heap) (locs : List Loc) (ls : Array Slot), cbody tab cl call E f pc S = some cs' → cHp D cA n H0 S.1 H → lv_has ls E.1.2.2.1 (cLv n S.2.1) → (∀ q ∈ locs, n ≤ q.base) → W p l e (crm E) s m args below meth c H locs S.2.2.2.1 S.2.2.2.2 (MQ below (cQc D cA n H0 cs') args s E.2.2.2.2.2.1 E.2.2.2.2.2.2 (fun q => n ≤ q)) (F0 m pc ls (cSk n S.2.2.1)) := by
  obtain ⟨b1, b2, b3, b4, b5, b6, b7, b8⟩ := hB
  intro f
  induction f with
  | zero => intro pc S H locs ls hs; cases hs
  | succ f ih =>
    intro pc S H locs ls hs h hlv hlc
    unfold cbody at hs
    split at hs
    · cases hs
    · rename_i ins len h1
      have hd0 := hE.2.2 _ (cfnd_mem h1)
      split at hs
      · cases hs
      · rename_i h2
        have hd : decode E.1.2.1 pc = .ok (ins, cln ins) := by
          rw [← Nat.beq_eq.mp h2]
          exact hd0
        split at hs
        -- return
        · split at hs
          · rename_i h3
            split at hs
            · rename_i h4
              obtain rfl := Option.some.inj hs
              simp only [Bool.and_eq_true] at h4
              rw [h3]
              exact W.widen (Nat.le_of_ble_eq_true h4.1) (Nat.le_of_ble_eq_true h4.2) (W.vret hexec hb hrt (fun t ht _ => ⟨rfl, by rw [ht]; exact h⟩) hlc hd hlk)
            · cases hs
          · cases hs
        -- a call
        · rename_i idx
          split at hs
          · rename_i h3
            split at hs
            · rename_i z st h4
              split at hs
              · rename_i h5
                have hk := ih _ _ H locs ls hs h hlv hlc
                rw [h4]
                have := csum (n := n) (l := st)
                have h5 := Nat.le_of_ble_eq_true h5
                exact W.objInit hexec hb hown (hts _ ((hE.2.1 _ (cfnd_mem h3)).1 rfl)) (hts _ b7.1) (hts _ b7.2) rfl (by rw [hml]; exact hlv.1) rfl hd (by show 1 ≤ E.2.2.2.2.1 + 1; omega) (by show 2 * 0 + ((cSk n st).map fun v => v.category).sum + 12 ≤ 40 * (E.2.2.2.2.1 + 1); omega) hk
              · cases hs
            · cases hs
          · rename_i i h3
            split at hs
            · rename_i C h4
              split at hs
              · rename_i h5
                simp only [Bool.and_eq_true] at h5
                obtain ⟨g1, g2, g3, g4⟩ := h5
                have g1 := Nat.blt_eq.mp g1
                have g2 := Nat.le_of_ble_eq_true g2
                have g3 := Nat.le_of_ble_eq_true g3
                have g4 := Nat.le_of_ble_eq_true g4
                have hl := (hE.2.1 _ (cfnd_mem h3)).2 i C rfl h4
                have hCo := (b8 i C h4).1
                split at hs
                · rename_i k st h6 h7
                  split at hs
                  · rename_i cs1 h8
                    rw [h7] at g4 ⊢
                    exact c_call (as := []) (st := st) (k := k) hexec hb hml hown hts b1 b2 hK hCo g1 hl (hcall i C _ _ _ h4 g1 h8) h hlv.1 (by rw [h6]; rfl) (by simp at g4; omega) g2 g3 hd (fun H1 L w1 w2 => ih _ _ H1 _ ls hs w1 hlv (fun q hq => (List.mem_append.mp hq).elim (hlc q) (w2 q)))
                  · cases hs
                · rename_i j k st h6 h7
                  split at hs
                  · rename_i cs1 h8
                    rw [h7] at g4 ⊢
                    exact c_call (as := [(2, j)]) (st := st) (k := k) hexec hb hml hown hts b1 b2 hK hCo g1 hl (hcall i C _ _ _ h4 g1 h8) h hlv.1 (by rw [h6]; rfl) (by simp at g4; omega) g2 g3 hd (fun H1 L w1 w2 => ih _ _ H1 _ ls hs w1 hlv (fun q hq => (List.mem_append.mp hq).elim (hlc q) (w2 q)))
                  · cases hs
                · cases hs
              · cases hs
            · cases hs
          · cases hs
        -- all else
        · split at hs
          · rename_i q h3
            exact cstep_ok hexec hb hts b3 hown hin2 hK b4 b5 b6 hE.1 ⟨rfl, rfl⟩ h (by rw [h.1]; exact Nat.le_add_right _ _) hlv hd (by rw [Nat.beq_eq.mp h2] at h3; exact h3) (fun H1 L ls1 w1 w2 w3 => ih _ _ H1 _ ls1 hs w1 w2 (fun r hr => (List.mem_append.mp hr).elim (hlc r) (w3 r)))
          · cases hs
theorem cargs_ok {n : Nat} : ∀ {vs : List cV} {i : Nat}, vs.all (fun v => Nat.beq v.1 2) = true → cLv n (cargs i vs) = lv_args i (cSk n vs)
  | [], i, _ => rfl
  | v :: vs, i, h => by
    simp only [List.all_cons, Bool.and_eq_true] at h
    obtain ⟨k, z⟩ := v
    have e : k = 2 := Nat.beq_eq.mp h.1
    subst e
    show (i, cval n (2, z)) :: cLv n (cargs (i + 1) vs) = (i, cval n (2, z)) :: lv_args (i + 1) (cSk n vs)
    rw [cargs_ok h.2]
theorem csl_ok {n : Nat} : ∀ {vs : List cV}, vs.all (fun v => Nat.beq v.1 2) = true → (lg_sl (cSk n vs)).length = vs.length
  | [], _ => rfl
  | v :: vs, h => by
    simp only [List.all_cons, Bool.and_eq_true] at h
    obtain ⟨k, z⟩ := v
    have e : k = 2 := Nat.beq_eq.mp h.1
    subst e
    have ih := csl_ok (n := n) h.2
    show (lg_sl (cval n (2, z) :: cSk n vs)).length = vs.length + 1
    rw [← ih]
    rfl
theorem cctor_met (hB : cBase l cl aty lg nw ao tab) {n : Nat} : ∀ (d i : Nat) (cs : List cCell) (vs : List cV) (cs' : List cCell) (E : cEn), tab[i]? = some E → cctor tab cl d i cs vs = some cs' → cMet l cl aty lg nw ao D cA tys n H0 E cs vs cs'
  | 0, i, cs, vs, cs', E, _, h => by cases h
  | d + 1, i, cs, vs, cs', E, hi, h => by
    unfold cctor at h
    rw [hi] at h
    dsimp only at h
    split at h
    · rename_i h1
      simp only [Bool.and_eq_true] at h1
      obtain ⟨g1, g2, g3⟩ := h1
      obtain ⟨e1, e2, e3, e4, e5, e6⟩ := hB.2.2.2.2.2.2.2 i E hi
      refine Met.ofW (cc := E.1.2.1) (maxL := E.1.2.2.1) (ret := none) e5 rfl ?_
      intro p e s m args below meth c s₁ Bd hml hv
      obtain ⟨rfl, hK, hH⟩ := hv
      have hts : ∀ w ∈ lg, w.before (cSk n vs).toArray s = true := fun w hw => atoms_spec (ws := Cond.code E.1.1 E.1.2.1 E.1.2.2.1 none :: lg) Bd.pre w (List.mem_cons_of_mem _ hw)
      have hown : s.vm.findClass E.1.1.cls = some m.cls := findClass_of_methodNamed Bd.named
      have hin : meth.name = "<init>" := (name_of_methodNamed Bd.named Bd.method).1.trans e1.2.2.2.1
      have hlv0 := lv_entry (cSk n vs) (n := E.1.2.2.1) (by rw [csl_ok g2]; exact Nat.le_of_ble_eq_true g3)
      rw [← cargs_ok g2] at hlv0
      show W p l e (crm E) s m (cSk n vs).toArray below meth c s.heap [] 0 0 _ (entryFrame m (cSk n vs).toArray E.1.2.2.1)
      rw [lg_entry_eq]
      exact cbody_ok hB ⟨e2, e3, e4⟩ Bd.exec Bd.bytes hml hown hts hin Bd.returns Bd.notSynchronized hK (fun i C cs1 vs1 cs2 k1 k2 k3 => cctor_met hB d i cs1 vs1 cs2 C k1 k3) 600 0 (cs, cargs 0 vs, [], 0, 0) s.heap [] _ h hH hlv0 (fun q hq => by cases hq)
    · cases h
end CCTOR
