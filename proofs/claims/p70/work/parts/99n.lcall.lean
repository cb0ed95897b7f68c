/-! THE LAW: its own makings and calls, in a room that is large enough -/
section LCALL
variable {p : Program} {l : Launch} {e : Env} {R : Room} {s : State} {m : MethodId} {args : Array Value} {below : List Frame} {meth : Method} {c : Code} {H H0 : Heap} {locs : List Loc} {Q : State → Prop} {cells slots : Nat}
variable {cc : ByteArray} {pc : Nat} {ls : Array Slot} {rest : List Value} {cl : List vw_C} {aty : List FieldType} {nw lg : List Cond} {ao : List String} {tys : List (ClassId × FieldType)} {D : va_G} {cA : Nat → Nat}
/-- a new object, its first values -/
theorem l_new {own C : String} {Tf : u_T} {n N ci index : Nat} {cs : List cCell} (hexec : p.tables.exec = Jvm.exec) (hb : c.code = cc) (hts : ∀ w ∈ lg, w.before args s = true) (hcl : kclok cl lg) (hown : s.vm.findClass own = some m.cls) (hlk : Cond.classLink own index C ∈ lg) (hin : Cond.instantiable C N ∈ lg) (hini : Cond.initialized C ∈ lg) (hK : va_K D cl tys s) (hc : cl[ci]? = some (C, Tf, N)) (h100 : Nat.blt ci 100 = true) (hcells : cells + 1 ≤ R.cells) (hslots : slots + N ≤ R.slots) (hdf : ∀ j, j < N → cdok (Tf j).2.2.1 = true) (h : cHp D cA n H0 cs H) (hd : decode cc pc = .ok (.new index, 3))
    (kk : ∀ H1 : Heap, cHp D cA n H0 (cs ++ [(ci, N, (List.range N).map (fun j => (j, cdef (Tf j).2.2.1)), (3, 0))]) H1 → W p l e R s m args below meth c H1 locs (cells + 1) (slots + N) Q (F0 m (pc + 3) ls (.ref (n + cs.length) :: rest))) : W p l e R s m args below meth c H locs cells slots Q (F0 m pc ls rest) := by
  refine q_new (cA := cA) hexec hb hts hcl hown hlk hin hini hK hc h100 hcells hslots hd (fun H1 V w1 w2 w3 w4 => ?_)
  have hk := kk H1 (cHp_push h w3 w4 (kcell_to h100 w1 (fun j hj => by
    obtain ⟨ty, y1, y2⟩ := w2 j hj
    rw [y2]
    unfold cVal
    dsimp only
    rw [cmap_get (f := fun j => cdef (Tf j).2.2.1) (List.mem_range.mpr hj)]
    exact (cdef_ok (hdf j hj) y1).symm)))
  rw [show H.size = n + cs.length from h.1]
  exact hk
/-- a constructor's call -/
theorem l_ctor {own : String} {C : cEn} {n index nL : Nat} {cs cs' : List cCell} {st : List Value} {k : Int} (hexec : p.tables.exec = Jvm.exec) (hb : c.code = cc) (hml : c.maxLocals = nL) (hown : s.vm.findClass own = some m.cls) (hts : ∀ w ∈ lg, w.before args s = true) (hlg : ∀ w ∈ lg, goodWord w = true) (hn : kNest nw) (hK : cKn cl aty nw ao D cA tys s) (hC : cEok C lg) (hR : (crm C).frames + 1 ≤ R.frames ∧ 8 + (C.1.2.2.1 + 11) + (crm C).locals ≤ R.locals) (hlink : Cond.methodLink own index C.1.1 ∈ lg) (hM : cMet l cl aty lg nw ao D cA tys n H0 C cs [(2, k)] cs') (h : cHp D cA n H0 cs H) (hls : ls.size = nL) (has : 0 = C.2.2.2.1) (hst : (st.map fun v => v.category).sum ≤ 8) (hc1 : cells + C.2.2.2.2.2.1 ≤ R.cells) (hc2 : slots + C.2.2.2.2.2.2 ≤ R.slots) (hd : decode cc pc = .ok (.invokespecial index, 3))
    (kk : ∀ (H1 : Heap) (L : List Loc), cHp D cA n H0 cs' H1 → (∀ q ∈ L, n ≤ q.base) → W p l e R s m args below meth c H1 (locs ++ L) (cells + C.2.2.2.2.2.1) (slots + C.2.2.2.2.2.2) Q (F0 m (pc + 3) ls st)) : W p l e R s m args below meth c H locs cells slots Q (F0 m pc ls (.ref (n + k.toNat) :: st)) := by
  obtain ⟨c1, c2, c3, c4, c5, c6, c7⟩ := hC
  have hpar : ∀ sig, parseMethodDescriptor C.1.1.desc = some sig → C.2.2.2.1 = sig.parameters.length := fun sig hs => by
    rw [hs] at c6
    exact (Option.some.inj c6).symm
  have hpre : PreS s H (cPc cl aty nw ao D cA tys n H0 cs [(2, k)]) [.ref (n + k.toNat)] := ⟨fun a U g mk hh => ⟨hh.1, cKn_call hn hh.2.1, hh.2.2⟩, fun U hU hW => ⟨rfl, cKn_warm hn hW hK, by rw [hU]; exact h⟩⟩
  have hws : ∀ w ∈ (Cond.code C.1.1 C.1.2.1 C.1.2.2.1 none :: lg), ∀ (a' : Array Value) (U : State), s.WarmedH U.vm → w.before a' U = true := pay_in hts (fun w hw => by
    rcases List.mem_cons.mp hw with rfl | hw
    · exact ⟨c1, good_of_word (hlg _ c1)⟩
    · exact ⟨hw, good_of_word (hlg _ hw)⟩)
  have hrun : va_Run p l e R s m args below meth c H locs cells slots C.2.2.2.2.2.1 C.2.2.2.2.2.2 (F0 m pc ls (.ref (n + k.toNat) :: st)) st (cQc D cA n H0 cs' [Value.ref (n + k.toNat)].toArray) (fun q => n ≤ q) :=
    va_runI (nL := nL) (n := C.2.2.2.1) ⟨hexec, hb, hml, hown, hts⟩ hM ⟨⟨rfl, rfl, hR.1, hR.2, hws, List.mem_cons_self, hts _ c1, hts _ c2, c5, hpar, hts _ hlink⟩, c4, hts _ c3⟩ hpre rfl has hls rfl (by show 2 * 0 + _ ≤ 8; omega) hd ⟨hc1, hc2⟩
  refine c_then hrun (fun v s0 t L h0 hq hL => ?_)
  obtain ⟨e1, e2⟩ := hq
  cases e1
  exact kk t.heap L e2 hL
end LCALL
section LINV
variable {p : Program} {l : Launch} {e : Env} {R : Room} {s : State} {m : MethodId} {args : Array Value} {below : List Frame} {meth : Method} {c : Code} {H : Heap} {locs : List Loc} {cells slots : Nat} {Q : State → Prop}
variable {cc : ByteArray} {pc : Nat} {ls : Array Slot} {rest : List Value} {cl : List vw_C} {aty : List FieldType} {nw lg : List Cond} {sk : kSk} {cA aS : Nat → Nat} {mt : List kMd} {X : State → Heap → Prop} {lo : Nat}
variable {D : va_G} {tt : List kT} {Ty : Nat → Nat → Prop} {env : List Int} {ren : List Nat} {S : kS} {lv : List (Nat × Value)} {st : List Value}
theorem k_callL {d d' : Nat} {y : MethodName} {b : ByteArray} {mL : Nat} {r : Option FieldType} (hts : ∀ w ∈ lg, w.before args s = true) (hlg : ∀ w ∈ lg, goodWord w = true) (hR : d ≤ 2000 ∧ 2048 ≤ R.frames ∧ 84000 ≤ R.locals) (hd : d' < d) (hmL : mL ≤ 21) (h1 : Cond.code y b mL r ∈ lg) : (krm d').cells = 0 ∧ (krm d').slots = 0 ∧ (krm d').frames + 1 ≤ R.frames ∧ 8 + (mL + 11) + (krm d').locals ≤ R.locals ∧ (∀ w ∈ (Cond.code y b mL r :: lg), ∀ (a' : Array Value) (U : State), s.WarmedH U.vm → w.before a' U = true) ∧ Cond.code y b mL r ∈ (Cond.code y b mL r :: lg) := by
  refine ⟨rfl, rfl, ?_, ?_, pay_in hts (fun w hw => ?_), List.mem_cons_self⟩
  · show d' + 1 ≤ R.frames
    omega
  · show 8 + (mL + 11) + 40 * d' ≤ R.locals
    omega
  · rcases List.mem_cons.mp hw with rfl | hw
    · exact ⟨h1, good_of_word (hlg _ h1)⟩
    · exact ⟨hw, good_of_word (hlg _ hw)⟩
set_option maxHeartbeats 4000000 in
theorem linv_ok {own : String} {ow : kOw} {cal : List (Nat × List Nat)} {ct : List kCt} {d nL idx : Nat} {wr : kW} {L : List kS} (hexec : p.tables.exec = Jvm.exec) (hb : c.code = cc) (hml : c.maxLocals = nL) (hR : d ≤ 2000 ∧ 2048 ≤ R.frames ∧ 84000 ≤ R.locals) (hcs : cells ≤ R.cells ∧ slots ≤ R.slots) (hown : s.vm.findClass own = some m.cls) (hts : ∀ w ∈ lg, w.before args s = true) (hlg : ∀ w ∈ lg, goodWord w = true) (how : kOwM own ow cl mt lg nw) (hK : kK cl aty nw sk D cA aS s) (hn : kNest nw) (hX : kXok X lo) (hXs : X s s.heap) (hTy : kTyp tt Ty) (hG : kgood D cA tt Ty lo H) (hfr : ∀ q, q < lo → H[q]? = s.heap[q]?)
    (hM : ∀ (i : Nat) (C : kCt), ct[i]? = some C → kMet l cl aty lg nw sk mt D cA aS tt Ty lo X C)
    (h : kst D cA tt Ty env ren S H lv st) (hls : ls.size = nL) (hd : decode cc pc = .ok (.invokevirtual idx, 3)) (hs : kinv tt aty ct ow cal wr d pc (.invokevirtual idx) S = some L)
    (kk : ∀ S' ∈ L, ∀ x u st' H' L', kgood D cA tt Ty lo H' → kfr lo H H' → kkp D cA tt Ty wr H H' → (∀ q ∈ L', lo ≤ q.base) → kst D cA tt Ty (env ++ x) (ren ++ u) S' H' lv st' → W p l e R s m args below meth c H' (locs ++ L') cells slots Q (F0 m (pc + 3) ls st')) : W p l e R s m args below meth c H locs cells slots Q (F0 m pc ls st) := by
  have hk := h.2.2.2.2.1
  unfold kinv at hs
  dsimp only at hs
  split at hs
  · rename_i q ids h1 h2
    split at hs
    · rename_i r avs ra h3
      split at hs
      · rename_i t h4
        split at hs
        · rename_i T h5
          split at hs
          · rename_i h6
            split at hs
            · rename_i h7
              split at hs
              · rename_i h8
                split at hs
                case h_2 => cases hs
                rename_i h9
                obtain ⟨i, C, g1, g2, g3, g4, g5⟩ := ktry_ok hs
                have hq := how _ (kfnd_mem h1)
                have e6 := Nat.beq_eq.mp h6
                have l7 : T.1 < 100 := Nat.blt_eq.mp h7
                have hne : Nat.beq q.2.2.1 102 = false := by
                  cases hb2 : Nat.beq q.2.2.1 102 with
                  | false => rfl
                  | true =>
                    have := Nat.beq_eq.mp hb2
                    omega
                simp only [hne] at hq
                obtain ⟨y, b, mL, rt, m1, m2, m3, m4, m5, m6, m8, m7, -⟩ := hq
                obtain ⟨w1, w2, w3, Tf, N, w4⟩ := m7 (by rw [← e6]; exact l7)
                obtain ⟨front, rs, f1, f2, f3, f4⟩ := ktake_ok (va := []) h3 hk trivial
                rw [List.append_nil] at f3
                cases hfv : front.reverse with
                | nil => rw [hfv] at f3; exact f3.elim
                | cons x0 As =>
                  rw [hfv] at f3
                  obtain ⟨⟨a, ea1, ea2⟩, f5⟩ := id f3
                  subst ea1
                  have hfr2 : front = As.reverse ++ [.ref a] := by
                    rw [← List.reverse_reverse front, hfv]
                    simp
                  have hlen : As.length = q.2.1 := by
                    have := congrArg List.length hfv
                    simp at this
                    omega
                  obtain ⟨zs, as, lv', c1, c2, c3⟩ := kcall_ok hTy hG h f3 f2 g5
                  have hta := h.2.2.1.2 r t a h4 ea2
                  obtain ⟨la, V, hca, hva⟩ := hG.1 a t T hta h5
                  unfold kcell at hca
                  rw [h7] at hca
                  obtain ⟨cell, p1, p2, p3, -⟩ := hca
                  have hMC := hM i C g1 y b mL rt (by rw [g2]; exact m1) zs as (Value.ref a :: As)
                  obtain ⟨b1, b2, b3, b4, b5, b6⟩ := k_callL (R := R) (d' := C.2.2.2.2.2) hts hlg hR g3 m6 m2
                  have hcls : s.vm.findClass y.cls = some cell.cls := by
                    obtain ⟨-, hfc, -⟩ := hK.1 q.2.2.1 _ w4
                    rw [p2, e6]
                    exact hfc
                  have hsl : (lg_sl (Value.ref a :: As)).length ≤ mL := by
                    rw [k_slen f3]
                    have g9 : 1 + kcsum avs ≤ q.2.2.2 := Nat.le_of_ble_eq_true h9
                    show 1 + kcsum avs ≤ mL
                    omega
                  have hrun := va_runV (cells := cells) (slots := slots) (locs := locs) (below := below) (e := e) (meth := meth) (H := H) (b := a) (As := As) (rest := rs) (C := y.cls) (g := F0 m pc ls st) ⟨hexec, hb, hml, hown, hts⟩ hMC ⟨⟨b1, b2, b3, b4, b5, b6, hts _ m2, hts _ m3, m5, fun sig hsig => by rw [hsig] at m4; exact (Option.some.inj m4).symm, hts _ w1⟩, hts _ w2, hts _ w3⟩
                    ⟨kPc_blind hn hX, ⟨cell, p1, by rw [p3]; rfl, hcls⟩, fun U hU hW => ⟨⟨rfl, hsl⟩, kK_warm hn hW hK, by rw [hU]; exact hX.1 s U s.heap H hW hXs hfr, by rw [hU]; exact hG, lv', by rw [hU]; exact c1, c2⟩⟩
                    rfl hlen hls (by show st = _; rw [f1, hfr2]; simp) (by
                      show 2 * 0 + _ ≤ 8
                      rw [kcsum_ok f2]
                      have := Nat.le_of_ble_eq_true h8
                      omega) hd ⟨by have := hcs.1; omega, by have := hcs.2; omega⟩
                  refine k_then hrun (fun v s0 t2 L2 hs0 hQ hL2 => ?_)
                  obtain ⟨v', q', x, u, ov, q1, q2, q3, q4, q5⟩ := hQ
                  cases ov
                  rw [hs0] at q4 q5
                  obtain ⟨S', r1, x', u', r2⟩ := c3 v q' x u t2.heap q1 q2 q4
                  exact kk S' r1 x' u' _ t2.heap L2 q3 q5 (kwsub_ok g4 q4) hL2 r2
              · cases hs
            · cases hs
          · cases hs
        · cases hs
      · cases hs
    · cases hs
  · cases hs
end LINV
