section HCPY
variable {p : Program} {l : Launch} {e : Env} {s : State} {m : MethodId} {args : Array Value} {below : List Frame} {meth : Method} {c : Code}
variable {D : va_G} {cA aS : Nat → Nat} {Ty : Nat → Nat → Prop} {lo : Nat} {X : State → Heap → Prop}
theorem cpy_all {V V' : Nat → Value} {j : Nat} (hj : j < 40) : va_cpy V V' 0 0 40 j = V j := by
  unfold va_cpy
  split
  · congr 1
    omega
  · omega
theorem kvals_like {T : kT} {k : Nat} {P : kP} {V V' : Nat → Value} (hr : T.2.2.1 = [(0, 1, k, P)]) (hse : T.2.2.2 = []) (hv : kvals Ty T V) (he : ∀ j, j < k → V' j = V j) : kvals Ty T V' := by
  refine ⟨fun q hq i hi => ?_, fun q hq => by rw [hse] at hq; cases hq⟩
  have h0 := hv.1 q hq i hi
  rw [hr] at hq
  have e : q = (0, 1, k, P) := by simpa using hq
  subst e
  have hi : i < k := hi
  show kpok Ty P (V' (0 + 1 * i))
  rw [he _ (by omega)]
  exact h0
set_option maxHeartbeats 4000000 in
theorem gh_copyActs (hX : kXok X lo) (hT : kTyp k_tt Ty) (hS : ∀ (j : Nat) (q : String × Nat × String), k_sk[j]? = some q → Ty (aS j) (ksn j)) : kGo l k_cl k_aty k_ns k_sk k_mw D cA aS k_tt Ty lo X k_ct hc_copyActs := fun h => by
  refine khand (y := ⟨"SilenceMatch$Acts", "copyFrom", "(LSilenceMatch$Acts;)V"⟩) (by decide +kernel) rfl (fun p e s m args below meth c hcx zs as lv ls hs hlv hG => ?_)
  have hP2 : hc_copyActs.2.1.2.1.length = as.length := hs.2.2.1.1.symm
  have hrt := hs.2.2.1
  have hloc := hs.2.2.2.1
  match as, hP2, hrt with
  | [a, a2], hP2, hrt =>
  have ha : Ty a 12 := hrt.2 0 _ a rfl rfl
  have ha2 : Ty a2 12 := hrt.2 1 _ a2 rfl rfl
  match lv, hloc with
  | [(_, _), (_, _)], ⟨rfl, ⟨a', rfl, ea⟩, rfl, ⟨a2', rfl, ea2⟩, _⟩ =>
  have ea : a = a' := Option.some.inj ea
  have ea2 : a2 = a2' := Option.some.inj ea2
  subst ea; subst ea2
  obtain ⟨V, Vo, Vp, Vw, n, hc, co, cp, cw, hv, vo, vp, vw, e0, n0, n40, l1, l2, l3, t1, t2, t3, hlo⟩ := acts_at hG ha
  obtain ⟨U, Uo, Up, Uw, k, gc, go, gp, gw, gv, uo, up, uw, f0, k0, k40, m1, m2, m3, r1, r2, r3, glo⟩ := acts_at hG ha2
  obtain ⟨hexec, hb, hml, hown, hts, hrt0, hlk, hK, hXs⟩ := id hcx
  have ne : ∀ {x y t t' : Nat} {T T' : kT}, Ty x t → Ty y t' → k_tt[t]? = some T → k_tt[t']? = some T' → t ≠ t' → x ≠ y := fun h1 h2 h3 h4 hne e => by
    subst e
    exact hne (kTyp_eq hT h1 h2 h3 h4)
  obtain ⟨w1, w2, w3, w4⟩ : Cond.methodLink "SilenceMatch$Acts" 34 arraycopyName ∈ k_lg ∧ Cond.native arraycopyName ∈ k_lg ∧ Cond.static arraycopyName ∈ k_lg ∧ Cond.initialized "java/lang/System" ∈ k_lg := wm_SilenceMatch_Acts (34, 0, 5, 102, 0) (by decide)
  have dc := dc_X0_copyFrom
  have d0 := dc _ (List.mem_of_getElem? (i := 0) rfl)
  have d1 := dc _ (List.mem_of_getElem? (i := 1) rfl)
  have d2 := dc _ (List.mem_of_getElem? (i := 2) rfl)
  have d3 := dc _ (List.mem_of_getElem? (i := 3) rfl)
  have d4 := dc _ (List.mem_of_getElem? (i := 4) rfl)
  have d5 := dc _ (List.mem_of_getElem? (i := 5) rfl)
  have d6 := dc _ (List.mem_of_getElem? (i := 6) rfl)
  have d7 := dc _ (List.mem_of_getElem? (i := 7) rfl)
  have d8 := dc _ (List.mem_of_getElem? (i := 8) rfl)
  have d9 := dc _ (List.mem_of_getElem? (i := 9) rfl)
  have d10 := dc _ (List.mem_of_getElem? (i := 10) rfl)
  have d11 := dc _ (List.mem_of_getElem? (i := 11) rfl)
  have d12 := dc _ (List.mem_of_getElem? (i := 12) rfl)
  have d13 := dc _ (List.mem_of_getElem? (i := 13) rfl)
  have d14 := dc _ (List.mem_of_getElem? (i := 14) rfl)
  have d15 := dc _ (List.mem_of_getElem? (i := 15) rfl)
  have d16 := dc _ (List.mem_of_getElem? (i := 16) rfl)
  have d17 := dc _ (List.mem_of_getElem? (i := 17) rfl)
  have d18 := dc _ (List.mem_of_getElem? (i := 18) rfl)
  have d19 := dc _ (List.mem_of_getElem? (i := 19) rfl)
  have d20 := dc _ (List.mem_of_getElem? (i := 20) rfl)
  have d21 := dc _ (List.mem_of_getElem? (i := 21) rfl)
  have d22 := dc _ (List.mem_of_getElem? (i := 22) rfl)
  have d23 := dc _ (List.mem_of_getElem? (i := 23) rfl)
  have d24 := dc _ (List.mem_of_getElem? (i := 24) rfl)
  have d25 := dc _ (List.mem_of_getElem? (i := 25) rfl)
  have d26 := dc _ (List.mem_of_getElem? (i := 26) rfl)
  have d27 := dc _ (List.mem_of_getElem? (i := 27) rfl)
  have d28 := dc _ (List.mem_of_getElem? (i := 28) rfl)
  dsimp only at d0 d1 d2 d3 d4 d5 d6 d7 d8 d9 d10 d11 d12 d13 d14 d15 d16 d17 d18 d19 d20 d21 d22 d23 d24 d25 d26 d27 d28
  refine lv_aload_n hexec hb d0 rfl (lv_at hlv 0 rfl) ?_
  refine lv_aload_n hexec hb d1 rfl (lv_at hlv 1 rfl) ?_
  refine h_get (T := kt_12) (idx := 22) (j := 0) (tc := 0) hexec hb hts k_clok hown hK wf_SilenceMatch_Acts (by decide) rfl (by decide) gc d2 ?_
  rw [f0]
  refine h_put (T := kt_12) (idx := 22) (j := 0) (tc := 0) hexec hb hts k_clok hown hK wf_SilenceMatch_Acts ⟨_, _, rfl⟩ (by decide) (by decide) rfl (show kfix .int (.int k) from trivial) hc d3 (fun H1 i1 hc1 s1 o1 => ?_)
  have gc1 : ∃ U1, kcell D cA kt_12 a2 H1 U1 ∧ U1 1 = .ref (a2 + 1) ∧ U1 2 = .ref (a2 + 2) ∧ U1 3 = .ref (a2 + 3) := by
    by_cases eq : a2 = a
    · subst eq
      exact ⟨_, hc1, by rw [updV_ne (by decide)]; exact l1, by rw [updV_ne (by decide)]; exact l2, by rw [updV_ne (by decide)]; exact l3⟩
    · exact ⟨U, kcell_kept gc (o1 a2 eq), m1, m2, m3⟩
  obtain ⟨U1, gc1, q1, q2, q3⟩ := gc1
  have co1 := kcell_kept co (o1 _ (ne t1 ha kt13 kt12 (by decide)))
  have cp1 := kcell_kept cp (o1 _ (ne t2 ha kt14 kt12 (by decide)))
  have cw1 := kcell_kept cw (o1 _ (ne t3 ha kt15 kt12 (by decide)))
  have go1 := kcell_kept go (o1 _ (ne r1 ha kt13 kt12 (by decide)))
  have gp1 := kcell_kept gp (o1 _ (ne r2 ha kt14 kt12 (by decide)))
  have gw1 := kcell_kept gw (o1 _ (ne r3 ha kt15 kt12 (by decide)))
  have z40 : (40 : Int32).toInt = 40 := rfl
  have z0 : (0 : Int32).toInt = 0 := rfl
  have fr : 1 ≤ (krm hc_copyActs.2.2.2.2.2).frames := Nat.le_refl 1
  have lr : (([] : List Value).map fun v => v.category).sum + (nativeFrameWords "java/lang/System" "arraycopy" 5 + 11) ≤ (krm hc_copyActs.2.2.2.2.2).locals := by
    have := k_nat
    show 0 + _ ≤ 40
    omega
  refine lv_aload_n hexec hb d4 rfl (lv_at hlv 1 rfl) ?_
  refine h_get (T := kt_12) (idx := 9) (j := 1) (tc := 3) hexec hb hts k_clok hown hK wf_SilenceMatch_Acts (by decide) rfl (by decide) gc1 d5 ?_
  rw [q1]
  refine lv_iconst (v := 0) hexec hb d6 rfl ?_
  refine lv_aload_n hexec hb d7 rfl (lv_at hlv 0 rfl) ?_
  refine h_get (T := kt_12) (idx := 9) (j := 1) (tc := 3) hexec hb hts k_clok hown hK wf_SilenceMatch_Acts (by decide) rfl (by decide) hc1 d8 ?_
  rw [updV_ne (by decide), l1]
  refine lv_iconst (v := 0) hexec hb d9 rfl ?_
  refine lv_bipush (v := 40) hexec hb d10 (by decide) ?_
  refine r_copy (a := a2 + 1) (b := a + 1) (na := 40) (nb := 40) (V := Uo) (V' := Vo) (ca := cA 1) (cb := cA 1) (ty := .boolean) hexec hb (by rw [hml]; exact hlv.1.symm) hown (hts _ w1) (hts _ w2) (hts _ w3) (hts _ w4) (hK.2.1 1 _ rfl) (hK.2.1 1 _ rfl) rfl go1 co1 (by rw [z0]; decide) (by rw [z0]; decide) (by rw [z40]; decide) (by rw [z0, z40]; decide) (by rw [z0, z40]; decide) (fun i hi => by
    have hp := uo.1 _ List.mem_cons_self i hi
    obtain ⟨w, ew, r, hr, b1, b2⟩ := hp
    have er : r = (0, 1) := by simpa using hr
    subst er
    rw [Nat.zero_add, Nat.one_mul] at ew
    rw [ew]
    exact ⟨(kfix_narrow (ty := .boolean) (v := .int w) ⟨b1, b2⟩).2, Or.inl ⟨w, rfl⟩⟩) fr lr d11 (fun H2 L2 x2 s2 o2 b2 => ?_)
  have co2 : kcell D cA kt_13 (a + 1) H2 (va_cpy Uo Vo 0 0 40) := x2
  have hc2 := kcell_kept hc1 (o2 a (ne ha t1 kt12 kt13 (by decide)))
  have gc2 := kcell_kept gc1 (o2 a2 (ne ha2 t1 kt12 kt13 (by decide)))
  have cp2 := kcell_kept cp1 (o2 _ (ne t2 t1 kt14 kt13 (by decide)))
  have cw2 := kcell_kept cw1 (o2 _ (ne t3 t1 kt15 kt13 (by decide)))
  have gp2 := kcell_kept gp1 (o2 _ (ne r2 t1 kt14 kt13 (by decide)))
  have gw2 := kcell_kept gw1 (o2 _ (ne r3 t1 kt15 kt13 (by decide)))
  refine lv_aload_n hexec hb d12 rfl (lv_at hlv 1 rfl) ?_
  refine h_get (T := kt_12) (idx := 15) (j := 2) (tc := 3) hexec hb hts k_clok hown hK wf_SilenceMatch_Acts (by decide) rfl (by decide) gc2 d13 ?_
  rw [q2]
  refine lv_iconst (v := 0) hexec hb d14 rfl ?_
  refine lv_aload_n hexec hb d15 rfl (lv_at hlv 0 rfl) ?_
  refine h_get (T := kt_12) (idx := 15) (j := 2) (tc := 3) hexec hb hts k_clok hown hK wf_SilenceMatch_Acts (by decide) rfl (by decide) hc2 d16 ?_
  rw [updV_ne (by decide), l2]
  refine lv_iconst (v := 0) hexec hb d17 rfl ?_
  refine lv_bipush (v := 40) hexec hb d18 (by decide) ?_
  refine r_copy (a := a2 + 2) (b := a + 2) (na := 40) (nb := 40) (V := Up) (V' := Vp) (ca := cA 0) (cb := cA 0) (ty := .int) hexec hb (by rw [hml]; exact hlv.1.symm) hown (hts _ w1) (hts _ w2) (hts _ w3) (hts _ w4) (hK.2.1 0 _ rfl) (hK.2.1 0 _ rfl) rfl gp2 cp2 (by rw [z0]; decide) (by rw [z0]; decide) (by rw [z40]; decide) (by rw [z0, z40]; decide) (by rw [z0, z40]; decide) (fun i hi => by
    obtain ⟨w, ew, -⟩ := up.1 _ List.mem_cons_self i hi
    rw [Nat.zero_add, Nat.one_mul] at ew
    rw [ew]
    exact ⟨rfl, Or.inl ⟨w, rfl⟩⟩) fr lr d19 (fun H3 L3 x3 s3 o3 b3 => ?_)
  have cp3 : kcell D cA kt_14 (a + 2) H3 (va_cpy Up Vp 0 0 40) := x3
  have hc3 := kcell_kept hc2 (o3 a (ne ha t2 kt12 kt14 (by decide)))
  have gc3 := kcell_kept gc2 (o3 a2 (ne ha2 t2 kt12 kt14 (by decide)))
  have co3 := kcell_kept co2 (o3 _ (ne t1 t2 kt13 kt14 (by decide)))
  have cw3 := kcell_kept cw2 (o3 _ (ne t3 t2 kt15 kt14 (by decide)))
  have gw3 := kcell_kept gw2 (o3 _ (ne r3 t2 kt15 kt14 (by decide)))
  refine lv_aload_n hexec hb d20 rfl (lv_at hlv 1 rfl) ?_
  refine h_get (T := kt_12) (idx := 19) (j := 3) (tc := 3) hexec hb hts k_clok hown hK wf_SilenceMatch_Acts (by decide) rfl (by decide) gc3 d21 ?_
  rw [q3]
  refine lv_iconst (v := 0) hexec hb d22 rfl ?_
  refine lv_aload_n hexec hb d23 rfl (lv_at hlv 0 rfl) ?_
  refine h_get (T := kt_12) (idx := 19) (j := 3) (tc := 3) hexec hb hts k_clok hown hK wf_SilenceMatch_Acts (by decide) rfl (by decide) hc3 d24 ?_
  rw [updV_ne (by decide), l3]
  refine lv_iconst (v := 0) hexec hb d25 rfl ?_
  refine lv_bipush (v := 40) hexec hb d26 (by decide) ?_
  refine r_copy (a := a2 + 3) (b := a + 3) (na := 40) (nb := 40) (V := Uw) (V' := Vw) (ca := cA 0) (cb := cA 0) (ty := .int) hexec hb (by rw [hml]; exact hlv.1.symm) hown (hts _ w1) (hts _ w2) (hts _ w3) (hts _ w4) (hK.2.1 0 _ rfl) (hK.2.1 0 _ rfl) rfl gw3 cw3 (by rw [z0]; decide) (by rw [z0]; decide) (by rw [z40]; decide) (by rw [z0, z40]; decide) (by rw [z0, z40]; decide) (fun i hi => by
    obtain ⟨w, ew, -⟩ := uw.1 _ List.mem_cons_self i hi
    rw [Nat.zero_add, Nat.one_mul] at ew
    rw [ew]
    exact ⟨rfl, Or.inl ⟨w, rfl⟩⟩) fr lr d27 (fun H4 L4 x4 s4 o4 b4 => ?_)
  have cw4 : kcell D cA kt_15 (a + 3) H4 (va_cpy Uw Vw 0 0 40) := x4
  have hc4 := kcell_kept hc3 (o4 a (ne ha t3 kt12 kt15 (by decide)))
  have gc4 := kcell_kept gc3 (o4 a2 (ne ha2 t3 kt12 kt15 (by decide)))
  have co4 := kcell_kept co3 (o4 _ (ne t1 t3 kt13 kt15 (by decide)))
  have cp4 := kcell_kept cp3 (o4 _ (ne t2 t3 kt14 kt15 (by decide)))
  have ho : ∀ q, q ≠ a → q ≠ a + 1 → q ≠ a + 2 → q ≠ a + 3 → H4[q]? = s.heap[q]? := fun q p0 p1 p2 p3 => (o4 q p3).trans ((o3 q p2).trans ((o2 q p1).trans (o1 q p0)))
  have vv : kvals Ty kt_12 (updV V 0 (.int k)) := by
    refine ⟨fun r hr P hP => ?_, fun r hr => by cases hr⟩
    have h0 := hv.1 r hr P hP
    rcases List.mem_cons.mp hr with rfl | hr
    · have : P = 0 := by
        have : P < 1 := hP
        omega
      subst this
      exact ⟨k, rfl, (0, 40), List.mem_cons_self, by show (0 : Int) ≤ _; omega, by show _ ≤ (40 : Int); omega⟩
    · have hr1 : r.1 ≠ 0 := by
        rcases List.mem_cons.mp hr with rfl | hr
        · decide
        · rcases List.mem_cons.mp hr with rfl | hr
          · decide
          · rcases List.mem_cons.mp hr with rfl | hr
            · decide
            · cases hr
      rw [updV_ne (by omega)]
      exact h0
  have hG4 : kgood D cA k_tt Ty lo H4 := by
    refine acts_good hT hG ha t1 t2 t3 hc co cw hc4 co4 cp4 cw4 vv (kvals_like rfl rfl uo (fun j hj => cpy_all hj)) (kvals_like rfl rfl up (fun j hj => cpy_all hj)) (kvals_like rfl rfl uw (fun j hj => cpy_all hj)) rfl rfl rfl ho (fun j i hj h1 h2 => ?_)
    rw [cpy_all hj] at h1 h2
    exact hG.2.2 a2 (a2 + 1) (a2 + 3) _ _ _ U Uo Uw j i ha2 kt12 gc m1 m3 r1 kt13 go r3 kt15 gw hj h1 h2
  refine kvoid (C := hc_copyActs) List.mem_cons_self (Or.inr trivial) hs hcx ⟨hG4, ⟨by rw [s4, s3, s2, s1], fun q hq => ho q (by omega) (by omega) (by omega) (by omega)⟩, ?_, ?_⟩ d28
  · refine kkp_of hT [(a, 12), (a + 1, 13), (a + 2, 14), (a + 3, 15)] (List.forall_mem_cons.mpr ⟨⟨Nat.blt_eq.mp rfl, ha, Or.inr ⟨0, List.mem_of_getElem? (i := 0) rfl, fun T W hT hW => ?_⟩⟩, List.forall_mem_cons.mpr ⟨⟨Nat.blt_eq.mp rfl, t1, Or.inl (List.mem_of_getElem? (i := 1) rfl)⟩, List.forall_mem_cons.mpr ⟨⟨Nat.blt_eq.mp rfl, t2, Or.inl (List.mem_of_getElem? (i := 2) rfl)⟩, List.forall_mem_cons.mpr ⟨⟨Nat.blt_eq.mp rfl, t3, Or.inl (List.mem_of_getElem? (i := 3) rfl)⟩, fun _ h => absurd h List.not_mem_nil⟩⟩⟩⟩) (fun q hq => ho q (hq (a, 12) (List.mem_of_getElem? (i := 0) rfl)) (hq (a + 1, 13) (List.mem_of_getElem? (i := 1) rfl)) (hq (a + 2, 14) (List.mem_of_getElem? (i := 2) rfl)) (hq (a + 3, 15) (List.mem_of_getElem? (i := 3) rfl)))
    cases Option.some.inj (kt12.symm.trans hT)
    exact ⟨_, hc4, fun j hj hne => by rw [updV_ne hne]; exact kcell_uniq hc hW hj⟩
  · intro q hq
    rcases List.mem_append.mp hq with hq | hq
    · rcases List.mem_append.mp hq with hq | hq
      · rcases List.mem_append.mp hq with hq | hq
        · have : q = ⟨a, i1⟩ := by simpa using hq
          rw [this]; exact hlo
        · rw [b2 q hq]; omega
      · rw [b3 q hq]; omega
    · rw [b4 q hq]; omega
end HCPY
