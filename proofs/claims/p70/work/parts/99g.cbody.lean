/-! a constructor's body -/
def crm (E : cEn) : Room := { frames := E.2.2.2.2.1 + 1, cells := E.2.2.2.2.2.1, slots := E.2.2.2.2.2.2, locals := 40 * (E.2.2.2.2.1 + 1) }
theorem cKn_warm {cl : List vw_C} {aty : List FieldType} {nw : List Cond} {ao : List String} {D : va_G} {cA : Nat → Nat} {tys : List (ClassId × FieldType)} {s U : State} (hn : kNest nw) (hW : s.WarmedH U.vm) (h : cKn cl aty nw ao D cA tys s) : cKn cl aty nw ao D cA tys U := by
  refine ⟨va_K.moved hW.alike h.1, h.2.1, fun w hw => ?_, fun C hC => va_AO.moved hW.alike (h.2.2.2 C hC)⟩
  obtain ⟨a, i, x, y, rfl⟩ := hn w hw
  exact va_Nw.warmM hW (h.2.2.1 _ hw)
theorem cKn_call {cl : List vw_C} {aty : List FieldType} {nw : List Cond} {ao : List String} {D : va_G} {cA : Nat → Nat} {tys : List (ClassId × FieldType)} {U : State} {g : JFrame} {mk : MethodId} {a : Array Value} (hn : kNest nw) (h : cKn cl aty nw ao D cA tys U) : cKn cl aty nw ao D cA tys (U.calling g mk a) := by
  refine ⟨va_K.moved (Vm.Alike.refl U.vm) h.1, h.2.1, fun w hw => ?_, fun C hC => va_AO.moved (Vm.Alike.refl U.vm) (h.2.2.2 C hC)⟩
  obtain ⟨a', i, x, y, rfl⟩ := hn w hw
  exact va_Nw.same rfl (u := U) rfl (h.2.2.1 _ hw)
def cPc (cl : List vw_C) (aty : List FieldType) (nw : List Cond) (ao : List String) (D : va_G) (cA : Nat → Nat) (tys : List (ClassId × FieldType)) (n : Nat) (H0 : Heap) (cs : List cCell) (vs : List cV) (a : Array Value) (U : State) : Prop := a = (cSk n vs).toArray ∧ cKn cl aty nw ao D cA tys U ∧ cHp D cA n H0 cs U.heap
def cQc (D : va_G) (cA : Nat → Nat) (n : Nat) (H0 : Heap) (cs : List cCell) (_ : Array Value) (_ : State) (oc : Outcome) (t : State) : Prop := oc = .returned none ∧ cHp D cA n H0 cs t.heap
def cMet (l : Launch) (cl : List vw_C) (aty : List FieldType) (lg nw : List Cond) (ao : List String) (D : va_G) (cA : Nat → Nat) (tys : List (ClassId × FieldType)) (n : Nat) (H0 : Heap) (E : cEn) (cs : List cCell) (vs : List cV) (cs' : List cCell) : Prop :=
  Met l E.1.1 (Cond.code E.1.1 E.1.2.1 E.1.2.2.1 none :: lg) (crm E) (cPc cl aty nw ao D cA tys n H0 cs vs) (cQc D cA n H0 cs') E.2.2.2.2.2.1 E.2.2.2.2.2.2 (fun q => n ≤ q)
/-- the links to constructors -/
def cPoM (own : String) (P : cPl) (tab : List cEn) (lg nw : List Cond) : Prop := ∀ q ∈ P.2.2.2, (q.2 = 0 → Cond.methodLink own q.1 Lib.objectInit ∈ lg) ∧ ∀ (i : Nat) (E : cEn), q.2 = i + 1 → tab[i]? = some E → Cond.methodLink own q.1 E.1.1 ∈ lg ∨ ∃ host, Cond.methodLinkNest own q.1 E.1.1 host ∈ nw
/-- a constructor's words -/
def cEok (E : cEn) (lg : List Cond) : Prop := Cond.code E.1.1 E.1.2.1 E.1.2.2.1 none ∈ lg ∧ Cond.initialized E.1.1.cls ∈ lg ∧ Cond.instanceMethod E.1.1 ∈ lg ∧ E.1.1.name = "<init>" ∧ (E.1.1.cls ≠ "java/lang/invoke/MethodHandle" ∧ E.1.1.cls ≠ "java/lang/invoke/VarHandle") ∧ (parseMethodDescriptor E.1.1.desc).map (fun d => d.parameters.length) = some E.2.2.2.1 ∧ E.1.2.2.1 ≤ 21
theorem csum {n : Nat} : ∀ {l : List cV}, ((cSk n l).map fun v => v.category).sum ≤ 2 * l.length
  | [] => Nat.le_refl _
  | v :: l => by
    have h := csum (n := n) (l := l)
    have h2 : (cval n v).category ≤ 2 := by
      obtain ⟨k, z⟩ := v
      match k with
      | 0 => exact (by decide : (1 : Nat) ≤ 2)
      | 1 => exact Nat.le_refl 2
      | 2 => exact (by decide : (1 : Nat) ≤ 2)
      | k + 3 => exact (by decide : (1 : Nat) ≤ 2)
    show (cval n v).category + ((cSk n l).map fun v => v.category).sum ≤ 2 * (l.length + 1)
    omega
section CBODY
variable {p : Program} {l : Launch} {e : Env} {R : Room} {s : State} {m : MethodId} {args : Array Value} {below : List Frame} {meth : Method} {c : Code} {H H0 : Heap} {locs : List Loc} {Q : State → Prop} {cells slots mc ms : Nat}
variable {cc : ByteArray} {pc : Nat} {ls : Array Slot} {rest : List Value} {cl : List vw_C} {aty : List FieldType} {nw lg : List Cond} {ao : List String} {tys : List (ClassId × FieldType)} {D : va_G} {cA : Nat → Nat}
theorem c_then {st0 : List Value} {Qa : State → Outcome → State → Prop} {free : Addr → Prop} (hr : va_Run p l e R s m args below meth c H locs cells slots mc ms (F0 m pc ls st0) rest Qa free)
    (kk : ∀ (v : Option Value) (s0 t : State) (L : List Loc), s0.heap = H → Qa s0 (.returned v) t → (∀ q ∈ L, free q.base) → W p l e R s m args below meth c t.heap (locs ++ L) (cells + mc) (slots + ms) Q (F0 m (pc + 3) ls (v.toList ++ rest))) : W p l e R s m args below meth c H locs cells slots Q (F0 m pc ls st0) := by
  intro T hT X
  obtain ⟨v, s0, t, T', L, h0, X', hL, e1, e2, hq, st⟩ := hr T hT X
  obtain ⟨t2, a1, b1⟩ := kk v s0 t L h0 hq hL T' e1 X'
  exact ⟨t2, st t2 a1, b1⟩
/-- a call of a constructor -/
theorem c_call {E C : cEn} {n index nL : Nat} {cs cs' : List cCell} {st : List cV} {k : Int} {as : List cV} (hexec : p.tables.exec = Jvm.exec) (hb : c.code = cc) (hml : c.maxLocals = nL) (hown : s.vm.findClass E.1.1.cls = some m.cls) (hts : ∀ w ∈ lg, w.before args s = true) (hlg : ∀ w ∈ lg, goodWord w = true) (hn : kNest nw) (hK : cKn cl aty nw ao D cA tys s) (hC : cEok C lg) (hlt : C.2.2.2.2.1 < E.2.2.2.2.1) (hlink : Cond.methodLink E.1.1.cls index C.1.1 ∈ lg ∨ ∃ host, Cond.methodLinkNest E.1.1.cls index C.1.1 host ∈ nw) (hM : cMet l cl aty lg nw ao D cA tys n H0 C cs ((2, k) :: as) cs') (h : cHp D cA n H0 cs H) (hls : ls.size = nL) (has : as.length = C.2.2.2.1) (hst : st.length ≤ 4) (hc1 : cells + C.2.2.2.2.2.1 ≤ E.2.2.2.2.2.1) (hc2 : slots + C.2.2.2.2.2.2 ≤ E.2.2.2.2.2.2) (hd : decode cc pc = .ok (.invokespecial index, 3))
    (kk : ∀ (H1 : Heap) (L : List Loc), cHp D cA n H0 cs' H1 → (∀ q ∈ L, n ≤ q.base) → W p l e (crm E) s m args below meth c H1 (locs ++ L) (cells + C.2.2.2.2.2.1) (slots + C.2.2.2.2.2.2) Q (F0 m (pc + 3) ls (cSk n st))) : W p l e (crm E) s m args below meth c H locs cells slots Q (F0 m pc ls (cSk n (as.reverse ++ (2, k) :: st))) := by
  obtain ⟨c1, c2, c3, c4, c5, c6, c7⟩ := hC
  have hpar : ∀ sig, parseMethodDescriptor C.1.1.desc = some sig → C.2.2.2.1 = sig.parameters.length := fun sig hs => by
    rw [hs] at c6
    exact (Option.some.inj c6).symm
  have hpre : PreS s H (cPc cl aty nw ao D cA tys n H0 cs ((2, k) :: as)) (.ref (n + k.toNat) :: cSk n as) := ⟨fun a U g mk hh => ⟨hh.1, cKn_call hn hh.2.1, hh.2.2⟩, fun U hU hW => ⟨rfl, cKn_warm hn hW hK, by rw [hU]; exact h⟩⟩
  have hws : ∀ w ∈ (Cond.code C.1.1 C.1.2.1 C.1.2.2.1 none :: lg), ∀ (a' : Array Value) (U : State), s.WarmedH U.vm → w.before a' U = true := pay_in hts (fun w hw => by
    rcases List.mem_cons.mp hw with rfl | hw
    · exact ⟨c1, good_of_word (hlg _ c1)⟩
    · exact ⟨hw, good_of_word (hlg _ hw)⟩)
  have hfr : (crm C).frames + 1 ≤ (crm E).frames := by
    show C.2.2.2.2.1 + 1 + 1 ≤ E.2.2.2.2.1 + 1
    omega
  have hlo : 8 + (C.1.2.2.1 + 11) + (crm C).locals ≤ (crm E).locals := by
    show 8 + (C.1.2.2.1 + 11) + 40 * (C.2.2.2.2.1 + 1) ≤ 40 * (E.2.2.2.2.1 + 1)
    omega
  have hstk : (F0 m pc ls (cSk n (as.reverse ++ (2, k) :: st))).stack = (cSk n as).reverse ++ .ref (n + k.toNat) :: cSk n st := by
    show cSk n (as.reverse ++ (2, k) :: st) = _
    unfold cSk
    rw [List.map_append, List.map_reverse]
    rfl
  have hsum : 2 * (F0 m pc ls (cSk n (as.reverse ++ (2, k) :: st))).monitorRoom + ((cSk n st).map fun v => v.category).sum ≤ 8 := by
    have := csum (n := n) (l := st)
    show 2 * 0 + _ ≤ 8
    omega
  have hrun : va_Run p l e (crm E) s m args below meth c H locs cells slots C.2.2.2.2.2.1 C.2.2.2.2.2.2 (F0 m pc ls (cSk n (as.reverse ++ (2, k) :: st))) (cSk n st) (cQc D cA n H0 cs' (Value.ref (n + k.toNat) :: cSk n as).toArray) (fun q => n ≤ q) := by
    rcases hlink with w | ⟨host, w⟩
    · exact va_runI (nL := nL) (n := C.2.2.2.1) ⟨hexec, hb, hml, hown, hts⟩ hM ⟨⟨rfl, rfl, hfr, hlo, hws, List.mem_cons_self, hts _ c1, hts _ c2, c5, hpar, hts _ w⟩, c4, hts _ c3⟩ hpre rfl (by simp [cSk, has]) hls hstk hsum hd ⟨hc1, hc2⟩
    · exact va_runIN (nL := nL) (n := C.2.2.2.1) (host := host) ⟨hexec, hb, hml, hown, hts⟩ hM ⟨⟨⟨rfl, rfl, hfr, hlo, hws, List.mem_cons_self⟩, hts _ c1, hts _ c2, c5, hpar, va_Nw.use rfl (hK.2.2.1 _ w)⟩, c4, hts _ c3⟩ hpre rfl (by simp [cSk, has]) hls hstk hsum hd ⟨hc1, hc2⟩
  refine c_then hrun (fun v s0 t L h0 hq hL => ?_)
  obtain ⟨e1, e2⟩ := hq
  cases e1
  exact kk t.heap L e2 hL
end CBODY
