section KINV3
variable {p : Program} {l : Launch} {e : Env} {R : Room} {s : State} {m : MethodId} {args : Array Value} {below : List Frame} {meth : Method} {c : Code} {H : Heap} {locs : List Loc} {cells slots : Nat} {Q : State → Prop}
variable {cc : ByteArray} {pc : Nat} {ls : Array Slot} {rest : List Value} {cl : List vw_C} {aty : List FieldType} {nw lg : List Cond} {sk : kSk} {cA aS : Nat → Nat} {mt : List kMd} {X : State → Heap → Prop} {lo : Nat}
variable {D : va_G} {tt : List kT} {Ty : Nat → Nat → Prop} {env : List Int} {ren : List Nat} {S : kS} {lv : List (Nat × Value)} {st : List Value}
theorem kcpT_ok {T : kT} (h : kcpT aty T = true) : ∃ ty k P, aty[T.1 - 100]? = some ty ∧ T.2.2.1 = [(0, 1, k, P)] ∧ T.2.2.2 = [] ∧ k = T.2.1 ∧ refKind ty = false ∧ ∀ v, kpok Ty P v → fits ty v = true ∧ ((∃ w, v = .int w) ∨ ∃ w, v = .long w) := by
  unfold kcpT at h
  split at h
  · rename_i k q h1 h2 h3
    exact ⟨.int, k, .inl q, h3, h1, h2, Nat.beq_eq.mp h, rfl, fun v hv => by
      obtain ⟨n, rfl, -⟩ := hv
      exact ⟨rfl, Or.inl ⟨n, rfl⟩⟩⟩
  · rename_i k q h1 h2 h3
    exact ⟨.long, k, .inr (.inl q), h3, h1, h2, Nat.beq_eq.mp h, rfl, fun v hv => by
      obtain ⟨n, rfl, -⟩ := hv
      exact ⟨rfl, Or.inr ⟨n, rfl⟩⟩⟩
  · rename_i k q h1 h2 h3
    split at h
    · rename_i hk
      refine ⟨.boolean, k, .inl q, h3, h1, h2, Nat.beq_eq.mp hk, rfl, fun v hv => ?_⟩
      obtain ⟨n, rfl, r, hr, b1, b2⟩ := hv
      refine ⟨?_, Or.inl ⟨n, rfl⟩⟩
      have hr2 := List.all_eq_true.mp h r hr
      simp only [Bool.and_eq_true] at hr2
      have hb : 0 ≤ r.1 ∧ r.2 ≤ 1 := by
        have h5 := hr2.2
        split at h5
        · rename_i e1
          split at h5
          · rename_i e2; rw [e1, e2]; exact ⟨by decide, by decide⟩
          · rename_i e2; rw [e1, e2]; exact ⟨by decide, by decide⟩
          · cases h5
        · rename_i e1
          split at h5
          · rename_i e2; rw [e1, e2]; exact ⟨by decide, by decide⟩
          · cases h5
        · cases h5
      have hn : n.toInt = 0 ∨ n.toInt = 1 := by omega
      have : n = 0 ∨ n = 1 := by
        rcases hn with e | e
        · exact Or.inl (Int32.toInt_inj.mp e)
        · exact Or.inr (Int32.toInt_inj.mp e)
      show (n == 0 || n == 1) = true
      rcases this with rfl | rfl <;> rfl
    · cases h
  · cases h
set_option maxHeartbeats 4000000 in
theorem kcopy_ok {own : String} {index d nL : Nat} {wr : kW} {L : List kS} (hexec : p.tables.exec = Jvm.exec) (hb : c.code = cc) (hml : c.maxLocals = nL) (hR : R = krm d) (hown : s.vm.findClass own = some m.cls) (hts : ∀ w ∈ lg, w.before args s = true) (how : Cond.methodLink own index arraycopyName ∈ lg ∧ Cond.native arraycopyName ∈ lg ∧ Cond.static arraycopyName ∈ lg ∧ Cond.initialized "java/lang/System" ∈ lg) (hK : kK cl aty nw sk D cA aS s) (hTy : kTyp tt Ty) (hG : kgood D cA tt Ty lo H)
    (h : kst D cA tt Ty env ren S H lv st) (hlv : lv_has ls nL lv) (hd : decode cc pc = .ok (.invokestatic index, 3)) (hs : kcopy tt aty wr d S = some L)
    (kk : ∀ S' ∈ L, ∀ x u st' H' L', kgood D cA tt Ty lo H' → kfr lo H H' → kkp D cA tt Ty wr H H' → (∀ q ∈ L', lo ≤ q.base) → kst D cA tt Ty (env ++ x) (ren ++ u) S' H' lv st' → W p l e R s m args below meth c H' (locs ++ L') cells slots Q (F0 m (pc + 3) ls st')) : W p l e R s m args below meth c H locs cells slots Q (F0 m pc ls st) := by
  have hk := h.2.2.2.2.1
  unfold kcopy at hs
  split at hs
  · rename_i n dp b sp a sa h1
    rw [h1] at hk
    match st, hk with
    | x1 :: x2 :: x3 :: x4 :: x5 :: sc, hk =>
      obtain ⟨⟨n', rfl, en⟩, ⟨dp', rfl, ed⟩, ⟨b', rfl, eb⟩, ⟨sp', rfl, es⟩, ⟨a', rfl, ea⟩, hk2⟩ := hk
      split at hs
      · rename_i t t2 h2 h3
        split at hs
        · rename_i h4
          have e4 := Nat.beq_eq.mp h4
          subst e4
          split at hs
          · rename_i T h5
            split at hs
            · rename_i h6
              split at hs
              · rename_i h70
                have h71 : kcpT aty T = true ∧ kyf t = true := by
                  cases g1 : kcpT aty T with
                  | false => simp [g1] at h70
                  | true =>
                    simp only [g1] at h70
                    exact ⟨rfl, h70⟩
                obtain ⟨h7, h7y⟩ := h71
                split at hs
                · rename_i h8
                  split at hs
                  · rename_i h9
                    split at hs
                    · rename_i h10
                      split at hs
                      · rename_i h11
                        split at hs
                        · rename_i h12
                          split at hs
                          · rename_i h13
                            split at hs
                            · rename_i h14
                              split at hs
                              · rename_i h15
                                obtain rfl := Option.some.inj hs
                                have hta := h.2.2.1.2 a t a' h2 ea
                                have htb := h.2.2.1.2 b t b' h3 eb
                                obtain ⟨la, V, hca, hva⟩ := hG.1 a' t T hta h5
                                obtain ⟨lb, V', hcb, hvb⟩ := hG.1 b' t T htb h5
                                obtain ⟨ty, k, P, c1, c2, c3, c4, c5, c6⟩ := kcpT_ok (Ty := Ty) h7
                                have z1 := kgeS_ok h en h8
                                have z2 := kgeS_ok h es h9
                                have z3 := kgeS_ok h ed h10
                                have z4 := kgeS_ok h (ksub_ev (ksub_ev (kcst_ev (n := Int.ofNat T.2.1)) es) en) h11
                                have z5 := kgeS_ok h (ksub_ev (ksub_ev (kcst_ev (n := Int.ofNat T.2.1)) ed) en) h12
                                have z4 : 0 ≤ (T.2.1 : Int) - sp'.toInt - n'.toInt := z4
                                have z5 : 0 ≤ (T.2.1 : Int) - dp'.toInt - n'.toInt := z5
                                have hca2 := hca
                                have hcb2 := hcb
                                unfold kcell at hca2 hcb2
                                rw [h6] at hca2 hcb2
                                have hA := hK.2.1 _ _ c1
                                subst hR
                                have d0 : 0 < d := Nat.blt_eq.mp h14
                                refine r_copy (a := a') (b := b') hexec hb (by rw [hml]; exact hlv.1.symm) hown (hts _ how.1) (hts _ how.2.1) (hts _ how.2.2.1) (hts _ how.2.2.2) hA hA c5 hca2 hcb2 z2 z3 z1 (by omega) (by omega) (fun i hi => c6 _ (by
                                  have hq := hva.1 (0, 1, k, P) (by rw [c2]; exact List.mem_cons_self) i (show i < k by omega)
                                  have hq : kpok Ty P (V (0 + 1 * i)) := hq
                                  rwa [Nat.zero_add, Nat.one_mul] at hq)) (show 1 ≤ d by omega) (by
                                  rw [kcsum_ok hk2]
                                  have := Nat.le_of_ble_eq_true h15
                                  have := k_nat
                                  show _ ≤ 40 * d
                                  omega) hd (fun H1 L w1 w2 w3 w4 => ?_)
                                have hw : ∃ w ∈ wr, w.1 = t ∧ w.2 = none := by
                                  obtain ⟨w, g1, g2⟩ := List.any_eq_true.mp h13
                                  cases hb2 : Nat.beq w.1 t with
                                  | false => simp [hb2] at g2
                                  | true =>
                                    cases hb3 : w.2 with
                                    | some j => simp [hb2, hb3] at g2
                                    | none => exact ⟨w, g1, Nat.beq_eq.mp hb2, hb3⟩
                                obtain ⟨g1, g2, g3⟩ := kcopy_core (a := a') hTy hG h htb h5 h7y h6 c2 c3 c4 hva hvb hcb (by omega) hw w1 w3
                                exact kk _ List.mem_cons_self [] [] _ H1 L g1 ⟨w2, fun q hq => w3 q (fun e => by subst e; omega)⟩ g2 (fun q hq => by rw [w4 q hq]; exact lb) (by
                                  rw [List.append_nil, List.append_nil]
                                  exact ⟨h.1, h.2.1, h.2.2.1, h.2.2.2.1, hk2, g3⟩)
                              · cases hs
                            · cases hs
                          · cases hs
                        · cases hs
                      · cases hs
                    · cases hs
                  · cases hs
                · cases hs
              · cases hs
            · cases hs
          · cases hs
        · cases hs
      · cases hs
    | [], hk => exact hk.elim
    | [_], hk => exact hk.2.elim
    | [_, _], hk => exact hk.2.2.elim
    | [_, _, _], hk => exact hk.2.2.2.elim
    | [_, _, _, _], hk => exact hk.2.2.2.2.elim
  · cases hs
set_option maxHeartbeats 4000000 in
theorem kinv_ok {own : String} {ow : kOw} {cal : List (Nat × List Nat)} {ct : List kCt} {d nL : Nat} {wr : kW} {ins : Instr} {L : List kS} (hexec : p.tables.exec = Jvm.exec) (hb : c.code = cc) (hml : c.maxLocals = nL) (hR : R = krm d) (hc0 : cells = 0 ∧ slots = 0) (hown : s.vm.findClass own = some m.cls) (hts : ∀ w ∈ lg, w.before args s = true) (hlg : ∀ w ∈ lg, goodWord w = true) (how : kOwM own ow cl mt lg nw) (hK : kK cl aty nw sk D cA aS s) (hn : kNest nw) (hX : kXok X lo) (hXs : X s s.heap) (hTy : kTyp tt Ty) (hG : kgood D cA tt Ty lo H) (hfr : kfr lo s.heap H)
    (hM : ∀ (i : Nat) (C : kCt), ct[i]? = some C → C.2.2.2.2.2 < d → kMet l cl aty lg nw sk mt D cA aS tt Ty lo X C)
    (h : kst D cA tt Ty env ren S H lv st) (hlv : lv_has ls nL lv) (hd : decode cc pc = .ok (ins, kln ins)) (hs : kinv tt aty ct ow cal wr d pc ins S = some L)
    (kk : ∀ S' ∈ L, ∀ x u st' H' L', kgood D cA tt Ty lo H' → kfr lo H H' → kkp D cA tt Ty wr H H' → (∀ q ∈ L', lo ≤ q.base) → kst D cA tt Ty (env ++ x) (ren ++ u) S' H' lv st' → W p l e R s m args below meth c H' (locs ++ L') cells slots Q (F0 m (pc + kln ins) ls st')) : W p l e R s m args below meth c H locs cells slots Q (F0 m pc ls st) := by
  have hk := h.2.2.2.2.1
  obtain ⟨rfl, rfl⟩ := hc0
  unfold kinv at hs
  split at hs
  -- virtual
  · rename_i idx
    split at hs
    · rename_i q ids h1 h2
      split at hs
      · rename_i r avs ra h3
        split at hs
        · rename_i t h4
          split at hs
          · rename_i T h5
            split at hs
            · rename_i h6
              split at hs
              · rename_i h7
                split at hs
                · rename_i h8
                  split at hs
                  case h_2 => cases hs
                  rename_i h9
                  obtain ⟨i, C, g1, g2, g3, g4, g5⟩ := ktry_ok hs
                  have hq := how _ (kfnd_mem h1)
                  have e6 := Nat.beq_eq.mp h6
                  have l7 : T.1 < 100 := Nat.blt_eq.mp h7
                  have hne : Nat.beq q.2.2.1 102 = false := by
                    cases hb2 : Nat.beq q.2.2.1 102 with
                    | false => rfl
                    | true =>
                      have := Nat.beq_eq.mp hb2
                      omega
                  simp only [hne] at hq
                  obtain ⟨y, b, mL, rt, m1, m2, m3, m4, m5, m6, m8, m7, -⟩ := hq
                  obtain ⟨w1, w2, w3, Tf, N, w4⟩ := m7 (by rw [← e6]; exact l7)
                  obtain ⟨front, rs, f1, f2, f3, f4⟩ := ktake_ok (va := []) h3 hk trivial
                  rw [List.append_nil] at f3
                  cases hfv : front.reverse with
                  | nil => rw [hfv] at f3; exact f3.elim
                  | cons x0 As =>
                    rw [hfv] at f3
                    obtain ⟨⟨a, ea1, ea2⟩, f5⟩ := id f3
                    subst ea1
                    have hfr2 : front = As.reverse ++ [.ref a] := by
                      rw [← List.reverse_reverse front, hfv]
                      simp
                    have hlen : As.length = q.2.1 := by
                      have := congrArg List.length hfv
                      simp at this
                      omega
                    obtain ⟨zs, as, lv', c1, c2, c3⟩ := kcall_ok hTy hG h f3 f2 g5
                    have hta := h.2.2.1.2 r t a h4 ea2
                    obtain ⟨la, V, hca, hva⟩ := hG.1 a t T hta h5
                    unfold kcell at hca
                    rw [h7] at hca
                    obtain ⟨cell, p1, p2, p3, -⟩ := hca
                    have hMC := hM i C g1 g3 y b mL rt (by rw [g2]; exact m1) zs as (Value.ref a :: As)
                    obtain ⟨b1, b2, b3, b4, b5, b6⟩ := k_callB (R := R) (own := own) (index := idx) (n := q.2.1) (d' := C.2.2.2.2.2) hts hlg hR g3 m6 m2
                    have hcls : s.vm.findClass y.cls = some cell.cls := by
                      obtain ⟨-, hfc, -⟩ := hK.1 q.2.2.1 _ w4
                      rw [p2, e6]
                      exact hfc
                    have hsl : (lg_sl (Value.ref a :: As)).length ≤ mL := by
                      rw [k_slen f3]
                      have g9 : 1 + kcsum avs ≤ q.2.2.2 := Nat.le_of_ble_eq_true h9
                      show 1 + kcsum avs ≤ mL
                      omega
                    have hrun := va_runV (cells := 0) (slots := 0) (locs := locs) (below := below) (e := e) (meth := meth) (H := H) (b := a) (As := As) (rest := rs) (C := y.cls) (g := F0 m pc ls st) ⟨hexec, hb, hml, hown, hts⟩ hMC ⟨⟨b1, b2, b3, b4, b5, b6, hts _ m2, hts _ m3, m5, fun sig hsig => by rw [hsig] at m4; exact (Option.some.inj m4).symm, hts _ w1⟩, hts _ w2, hts _ w3⟩
                      ⟨kPc_blind hn hX, ⟨cell, p1, by rw [p3]; rfl, hcls⟩, fun U hU hW => ⟨⟨rfl, hsl⟩, kK_warm hn hW hK, by rw [hU]; exact hX.1 s U s.heap H hW hXs hfr.2, by rw [hU]; exact hG, lv', by rw [hU]; exact c1, c2⟩⟩
                      rfl hlen hlv.1 (by show st = _; rw [f1, hfr2]; simp) (by
                        show 2 * 0 + _ ≤ 8
                        rw [kcsum_ok f2]
                        have := Nat.le_of_ble_eq_true h8
                        omega) hd ⟨by omega, by omega⟩
                    refine k_then hrun (fun v s0 t2 L2 hs0 hQ hL2 => ?_)
                    obtain ⟨v', q', x, u, ov, q1, q2, q3, q4, q5⟩ := hQ
                    cases ov
                    rw [hs0] at q4 q5
                    obtain ⟨S', r1, x', u', r2⟩ := c3 v q' x u t2.heap q1 q2 q4
                    exact kk S' r1 x' u' _ t2.heap L2 q3 q5 (kwsub_ok g4 q4) hL2 r2
                · cases hs
              · cases hs
            · cases hs
          · cases hs
        · cases hs
      · cases hs
    · cases hs
  -- static
  · rename_i idx
    split at hs
    · rename_i q h1
      have hq := how _ (kfnd_mem h1)
      split at hs
      · rename_i h2
        simp only [h2] at hq
        exact kcopy_ok hexec hb hml hR hown hts hq hK hTy hG h hlv hd hs kk
      · rename_i h2
        simp only [h2] at hq
        split at hs
        · rename_i ids h3
          split at hs
          · rename_i h4
            split at hs
            · rename_i avs ra h5
              split at hs
              · rename_i h8
                split at hs
                case h_2 => cases hs
                rename_i h9
                obtain ⟨i, C, g1, g2, g3, g4, g5⟩ := ktry_ok hs
                obtain ⟨y, b, mL, rt, m1, m2, m3, m4, m5, m6, m8, -, m7⟩ := hq
                obtain ⟨w1, w2⟩ := m7 (Nat.le_of_ble_eq_true h4)
                obtain ⟨front, rs, f1, f2, f3, f4⟩ := ktake_ok (va := []) h5 hk trivial
                rw [List.append_nil] at f3
                obtain ⟨zs, as, lv', c1, c2, c3⟩ := kcall_ok hTy hG h f3 f2 g5
                have hMC := hM i C g1 g3 y b mL rt (by rw [g2]; exact m1) zs as front.reverse
                obtain ⟨b1, b2, b3, b4, b5, b6⟩ := k_callB (R := R) (own := own) (index := idx) (n := q.2.1) (d' := C.2.2.2.2.2) hts hlg hR g3 m6 m2
                have hsl : (lg_sl front.reverse).length ≤ mL := by
                  rw [k_slen f3]
                  have g9 : kcsum avs ≤ q.2.2.2 := Nat.le_of_ble_eq_true h9
                  omega
                have hpre : PreS s H (kPc cl aty nw sk D cA aS tt Ty lo X mL C.2.1 zs as front.reverse) front.reverse := ⟨kPc_blind hn hX, fun U hU hW => ⟨⟨rfl, hsl⟩, kK_warm hn hW hK, by rw [hU]; exact hX.1 s U s.heap H hW hXs hfr.2, by rw [hU]; exact hG, lv', by rw [hU]; exact c1, c2⟩⟩
                have hstk : (F0 m pc ls st).stack = front.reverse.reverse ++ rs := by show st = _; rw [f1]; simp
                have hsum : 2 * (F0 m pc ls st).monitorRoom + (rs.map fun v => v.category).sum ≤ 8 := by
                  show 2 * 0 + _ ≤ 8
                  rw [kcsum_ok f2]
                  have := Nat.le_of_ble_eq_true h8
                  omega
                have hpar : ∀ sig, parseMethodDescriptor y.desc = some sig → q.2.1 = sig.parameters.length := fun sig hsig => by rw [hsig] at m4; exact (Option.some.inj m4).symm
                have hrun : va_Run p l e R s m args below meth c H locs 0 0 0 0 (F0 m pc ls st) rs (kQc D cA tt Ty lo C zs as front.reverse.toArray) (fun q => lo ≤ q) := by
                  rcases w2 with w2 | ⟨host, w2⟩
                  · exact va_runS (nL := nL) (n := q.2.1) ⟨hexec, hb, hml, hown, hts⟩ hMC ⟨⟨b1, b2, b3, b4, b5, b6, hts _ m2, hts _ m3, m5, hpar, hts _ w2⟩, hts _ w1⟩ hpre rfl (by simp [f4]) hlv.1 hstk hsum hd ⟨by omega, by omega⟩
                  · exact va_runSN (nL := nL) (n := q.2.1) (host := host) ⟨hexec, hb, hml, hown, hts⟩ hMC ⟨⟨⟨b1, b2, b3, b4, b5, b6⟩, hts _ m2, hts _ m3, m5, hpar, va_Nw.use rfl (hK.2.2.1 _ w2)⟩, hts _ w1, trivial⟩ hpre rfl (by simp [f4]) hlv.1 hstk hsum hd ⟨by omega, by omega⟩
                refine k_then hrun (fun v s0 t2 L2 hs0 hQ hL2 => ?_)
                obtain ⟨v', q', x, u, ov, q1, q2, q3, q4, q5⟩ := hQ
                cases ov
                rw [hs0] at q4 q5
                obtain ⟨S', r1, x', u', r2⟩ := c3 v q' x u t2.heap q1 q2 q4
                exact kk S' r1 x' u' _ t2.heap L2 q3 q5 (kwsub_ok g4 q4) hL2 r2
              · cases hs
            · cases hs
          · cases hs
        · cases hs
    · cases hs
  · cases hs
end KINV3
