section HADD
variable {p : Program} {l : Launch} {e : Env} {s : State} {m : MethodId} {args : Array Value} {below : List Frame} {meth : Method} {c : Code}
variable {D : va_G} {cA aS : Nat → Nat} {Ty : Nat → Nat → Prop} {lo : Nat} {X : State → Heap → Prop} {C : kCt} {zs : List Int} {as : List Nat}
set_option maxHeartbeats 4000000 in
theorem acts_addW {ls : Array Slot} {lv : List (Nat × Value)} {a : Nat} {x1 x2 x3 : Int32} (hwr : C.2.2.2.2.1 = [(12, some 0), (13, none), (14, none), (15, none)]) (hq : (([], [], none, [], [], []) : kCs) ∈ C.2.2.2.1) (hcx : kCtx p k_cl k_aty k_lg k_ns k_sk D cA aS X ⟨"SilenceMatch$Acts", "add", "(ZII)V"⟩ prog_2_method_2_code 4 none s m args meth c) (hs : kst D cA k_tt Ty zs as C.2.1 s.heap lv []) (hTy : kTyp k_tt Ty) (hG : kgood D cA k_tt Ty lo s.heap) (ha : Ty a 12) (hl : lv_has ls 4 [(0, .ref a), (1, .int x1), (2, .int x2), (3, .int x3)]) (b1 : 0 ≤ x1.toInt ∧ x1.toInt ≤ 1) (b2 : 0 ≤ x2.toInt ∧ x2.toInt ≤ 7) (b3 : 0 ≤ x3.toInt ∧ x3.toInt ≤ 19) (b4 : x1.toInt = 1 → x3.toInt ≤ 12) : kOwe p l e D cA k_tt Ty lo C zs as s m args below meth c s.heap [] 0 ls [] := by
  obtain ⟨V, Vo, Vp, Vw, n, hc, co, cp, cw, hv, vo, vp, vw, e0, n0, n40, l1, l2, l3, t1, t2, t3, hlo⟩ := acts_at hG ha
  obtain ⟨hexec, hb, hml, hown, hts, hrt, hlk, hK, hXs⟩ := id hcx
  have dc := dc_X0_add
  have d0 := dc _ (List.mem_of_getElem? (i := 0) rfl)
  have d1 := dc _ (List.mem_of_getElem? (i := 1) rfl)
  have d2 := dc _ (List.mem_of_getElem? (i := 2) rfl)
  have d3 := dc _ (List.mem_of_getElem? (i := 3) rfl)
  have d4 := dc _ (List.mem_of_getElem? (i := 4) rfl)
  have d5 := dc _ (List.mem_of_getElem? (i := 5) rfl)
  have d6 := dc _ (List.mem_of_getElem? (i := 6) rfl)
  have d7 := dc _ (List.mem_of_getElem? (i := 7) rfl)
  have d8 := dc _ (List.mem_of_getElem? (i := 8) rfl)
  have d9 := dc _ (List.mem_of_getElem? (i := 9) rfl)
  have d10 := dc _ (List.mem_of_getElem? (i := 10) rfl)
  have d11 := dc _ (List.mem_of_getElem? (i := 11) rfl)
  have d12 := dc _ (List.mem_of_getElem? (i := 12) rfl)
  have d13 := dc _ (List.mem_of_getElem? (i := 13) rfl)
  have d14 := dc _ (List.mem_of_getElem? (i := 14) rfl)
  have d15 := dc _ (List.mem_of_getElem? (i := 15) rfl)
  have d16 := dc _ (List.mem_of_getElem? (i := 16) rfl)
  have d17 := dc _ (List.mem_of_getElem? (i := 17) rfl)
  have d18 := dc _ (List.mem_of_getElem? (i := 18) rfl)
  have d19 := dc _ (List.mem_of_getElem? (i := 19) rfl)
  have d20 := dc _ (List.mem_of_getElem? (i := 20) rfl)
  have d21 := dc _ (List.mem_of_getElem? (i := 21) rfl)
  have d22 := dc _ (List.mem_of_getElem? (i := 22) rfl)
  have d23 := dc _ (List.mem_of_getElem? (i := 23) rfl)
  have d24 := dc _ (List.mem_of_getElem? (i := 24) rfl)
  have d25 := dc _ (List.mem_of_getElem? (i := 25) rfl)
  have d26 := dc _ (List.mem_of_getElem? (i := 26) rfl)
  have d27 := dc _ (List.mem_of_getElem? (i := 27) rfl)
  have d28 := dc _ (List.mem_of_getElem? (i := 28) rfl)
  dsimp only at d0 d1 d2 d3 d4 d5 d6 d7 d8 d9 d10 d11 d12 d13 d14 d15 d16 d17 d18 d19 d20 d21 d22 d23 d24 d25 d26 d27 d28
  refine lv_aload_n hexec hb d0 rfl (lv_at hl 0 rfl) ?_
  refine h_get (T := kt_12) (idx := 22) (j := 0) (tc := 0) hexec hb hts k_clok hown hK wf_SilenceMatch_Acts (by decide) rfl (by decide) hc d1 ?_
  rw [e0]
  refine lv_bipush (v := 40) hexec hb d2 (by decide) ?_
  refine lv_icmp_ge (tgt := 49) hexec hb d3 rfl (fun _ => ?_) (fun hlt => ?_)
  · exact kvoid hq (Or.inr trivial) hs hcx ⟨hG, kfr_rfl, kkp_rfl, fun q hq => by cases hq⟩ d28
  have nlt : n.toInt < 40 := by
    rw [Int32.le_iff_toInt_le] at hlt
    have : (40 : Int32).toInt = 40 := rfl
    omega
  have hz : n.toInt = ((n.toInt.toNat : Nat) : Int) := (Int.toNat_of_nonneg n0).symm
  generalize hzz : n.toInt.toNat = z at hz
  have hz40 : z < 40 := by omega
  have na1 : a ≠ a + 1 := by omega
  refine lv_aload_n hexec hb d4 rfl (lv_at hl 0 rfl) ?_
  refine h_get (T := kt_12) (idx := 9) (j := 1) (tc := 3) hexec hb hts k_clok hown hK wf_SilenceMatch_Acts (by decide) rfl (by decide) hc d5 ?_
  rw [l1]
  refine lv_aload_n hexec hb d6 rfl (lv_at hl 0 rfl) ?_
  refine h_get (T := kt_12) (idx := 22) (j := 0) (tc := 0) hexec hb hts k_clok hown hK wf_SilenceMatch_Acts (by decide) rfl (by decide) hc d7 ?_
  rw [e0]
  refine lv_iload_n hexec hb d8 rfl (lv_at hl 1 rfl) ?_
  refine r_ast (T := kt_13) (ty := .boolean) hexec hb hK rfl rfl rfl (show kfix .boolean (.int x1) from b1) hz hz40 co d9 (fun H1 i1 co1 s1 o1 => ?_)
  have hc1 := kcell_kept hc (o1 a (by omega))
  have cp1 := kcell_kept cp (o1 (a + 2) (by omega))
  have cw1 := kcell_kept cw (o1 (a + 3) (by omega))
  refine lv_aload_n hexec hb d10 rfl (lv_at hl 0 rfl) ?_
  refine h_get (T := kt_12) (idx := 15) (j := 2) (tc := 3) hexec hb hts k_clok hown hK wf_SilenceMatch_Acts (by decide) rfl (by decide) hc1 d11 ?_
  rw [l2]
  refine lv_aload_n hexec hb d12 rfl (lv_at hl 0 rfl) ?_
  refine h_get (T := kt_12) (idx := 22) (j := 0) (tc := 0) hexec hb hts k_clok hown hK wf_SilenceMatch_Acts (by decide) rfl (by decide) hc1 d13 ?_
  rw [e0]
  refine lv_iload_n hexec hb d14 rfl (lv_at hl 2 rfl) ?_
  refine r_ast (T := kt_14) (ty := .int) hexec hb hK rfl rfl rfl (show kfix .int (.int x2) from trivial) hz hz40 cp1 d15 (fun H2 i2 cp2 s2 o2 => ?_)
  have hc2 := kcell_kept hc1 (o2 a (by omega))
  have co2 := kcell_kept co1 (o2 (a + 1) (by omega))
  have cw2 := kcell_kept cw1 (o2 (a + 3) (by omega))
  refine lv_aload_n hexec hb d16 rfl (lv_at hl 0 rfl) ?_
  refine h_get (T := kt_12) (idx := 19) (j := 3) (tc := 3) hexec hb hts k_clok hown hK wf_SilenceMatch_Acts (by decide) rfl (by decide) hc2 d17 ?_
  rw [l3]
  refine lv_aload_n hexec hb d18 rfl (lv_at hl 0 rfl) ?_
  refine h_get (T := kt_12) (idx := 22) (j := 0) (tc := 0) hexec hb hts k_clok hown hK wf_SilenceMatch_Acts (by decide) rfl (by decide) hc2 d19 ?_
  rw [e0]
  refine lv_iload_n hexec hb d20 rfl (lv_at hl 3 rfl) ?_
  refine r_ast (T := kt_15) (ty := .int) hexec hb hK rfl rfl rfl (show kfix .int (.int x3) from trivial) hz hz40 cw2 d21 (fun H3 i3 cw3 s3 o3 => ?_)
  have hc3 := kcell_kept hc2 (o3 a (by omega))
  have co3 := kcell_kept co2 (o3 (a + 1) (by omega))
  have cp3 := kcell_kept cp2 (o3 (a + 2) (by omega))
  refine lv_aload_n hexec hb d22 rfl (lv_at hl 0 rfl) ?_
  refine lv_dup hexec hb d23 rfl ?_
  refine h_get (T := kt_12) (idx := 22) (j := 0) (tc := 0) hexec hb hts k_clok hown hK wf_SilenceMatch_Acts (by decide) rfl (by decide) hc3 d24 ?_
  rw [e0]
  refine lv_iconst (v := 1) hexec hb d25 rfl ?_
  refine lv_iadd hexec hb d26 ?_
  have hn1 : (n + 1).toInt = n.toInt + 1 := by
    rw [Int32.toInt_add, show (1 : Int32).toInt = 1 from rfl, k32_bm (by show (-2147483648 : Int) ≤ _; omega) (by show _ ≤ (2147483647 : Int); omega)]
  refine h_put (T := kt_12) (idx := 22) (j := 0) (tc := 0) hexec hb hts k_clok hown hK wf_SilenceMatch_Acts ⟨_, _, rfl⟩ (by decide) (by decide) rfl (show kfix .int (.int (n + 1)) from trivial) hc3 d27 (fun H4 i4 hc4 s4 o4 => ?_)
  have co4 := kcell_kept co3 (o4 (a + 1) (by omega))
  have cp4 := kcell_kept cp3 (o4 (a + 2) (by omega))
  have cw4 := kcell_kept cw3 (o4 (a + 3) (by omega))
  have ho : ∀ q, q ≠ a → q ≠ a + 1 → q ≠ a + 2 → q ≠ a + 3 → H4[q]? = s.heap[q]? := fun q q0 q1 q2 q3 => (o4 q q0).trans ((o3 q q3).trans ((o2 q q2).trans (o1 q q1)))
  have vv : kvals Ty kt_12 (updV V 0 (.int (n + 1))) := by
    refine ⟨fun r hr P hP => ?_, fun r hr => by cases hr⟩
    have h0 := hv.1 r hr P hP
    rcases List.mem_cons.mp hr with rfl | hr
    · have : P = 0 := by
        have : P < 1 := hP
        omega
      subst this
      exact ⟨n + 1, rfl, (0, 40), List.mem_cons_self, by show (0 : Int) ≤ _; omega, by show _ ≤ (40 : Int); omega⟩
    · have hr1 : r.1 ≠ 0 := by
        rcases List.mem_cons.mp hr with rfl | hr
        · decide
        · rcases List.mem_cons.mp hr with rfl | hr
          · decide
          · rcases List.mem_cons.mp hr with rfl | hr
            · decide
            · cases hr
      rw [updV_ne (by omega)]
      exact h0
  have hG4 : kgood D cA k_tt Ty lo H4 := by
    refine acts_good hTy hG ha t1 t2 t3 hc co cw hc4 co4 cp4 cw4 vv (kvals_set rfl rfl vo ⟨x1, rfl, (0, 1), List.mem_cons_self, b1⟩) (kvals_set rfl rfl vp ⟨x2, rfl, (0, 7), List.mem_cons_self, b2⟩) (kvals_set rfl rfl vw ⟨x3, rfl, (0, 19), List.mem_cons_self, b3⟩) rfl rfl rfl ho (fun j k hj h1 h2 => ?_)
    by_cases ej : j = z
    · subst ej
      rw [updV_same] at h1 h2
      injection h1 with h1
      injection h2 with h2
      subst h1; subst h2
      exact b4 rfl
    · rw [updV_ne ej] at h1 h2
      exact hG.2.2 a (a + 1) (a + 3) _ _ _ V Vo Vw j k ha kt12 hc l1 l3 t1 kt13 co t3 kt15 cw hj h1 h2
  refine kvoid hq (Or.inr trivial) hs hcx ⟨hG4, ⟨by rw [s4, s3, s2, s1], fun q hq => ho q (by omega) (by omega) (by omega) (by omega)⟩, ?_, ?_⟩ d28
  · refine kkp_of hTy [(a, 12), (a + 1, 13), (a + 2, 14), (a + 3, 15)] (List.forall_mem_cons.mpr ⟨⟨Nat.blt_eq.mp rfl, ha, Or.inr ⟨0, by rw [hwr]; exact List.mem_of_getElem? (i := 0) rfl, fun T W hT hW => ?_⟩⟩, List.forall_mem_cons.mpr ⟨⟨Nat.blt_eq.mp rfl, t1, Or.inl (by rw [hwr]; exact List.mem_of_getElem? (i := 1) rfl)⟩, List.forall_mem_cons.mpr ⟨⟨Nat.blt_eq.mp rfl, t2, Or.inl (by rw [hwr]; exact List.mem_of_getElem? (i := 2) rfl)⟩, List.forall_mem_cons.mpr ⟨⟨Nat.blt_eq.mp rfl, t3, Or.inl (by rw [hwr]; exact List.mem_of_getElem? (i := 3) rfl)⟩, fun _ h => absurd h List.not_mem_nil⟩⟩⟩⟩) (fun q hq => ho q (hq (a, 12) (List.mem_of_getElem? (i := 0) rfl)) (hq (a + 1, 13) (List.mem_of_getElem? (i := 1) rfl)) (hq (a + 2, 14) (List.mem_of_getElem? (i := 2) rfl)) (hq (a + 3, 15) (List.mem_of_getElem? (i := 3) rfl)))
    cases Option.some.inj (kt12.symm.trans hT)
    exact ⟨_, hc4, fun j hj hne => by rw [updV_ne hne]; exact kcell_uniq hc hW hj⟩
  · intro q hq
    simp only [List.nil_append, List.mem_append, List.mem_singleton] at hq
    rcases hq with ((rfl | rfl) | rfl) | rfl
    · show lo ≤ a + 1; omega
    · show lo ≤ a + 2; omega
    · show lo ≤ a + 3; omega
    · exact hlo
end HADD
section HADD2
variable {l : Launch} {D : va_G} {cA aS : Nat → Nat} {Ty : Nat → Nat → Prop} {lo : Nat} {X : State → Heap → Prop}
set_option maxHeartbeats 4000000 in
theorem gh_addL (hX : kXok X lo) (hT : kTyp k_tt Ty) (hS : ∀ (j : Nat) (q : String × Nat × String), k_sk[j]? = some q → Ty (aS j) (ksn j)) : kGo l k_cl k_aty k_ns k_sk k_mw D cA aS k_tt Ty lo X k_ct hc_addL := fun h => by
  refine khand (y := ⟨"SilenceMatch$Acts", "add", "(ZII)V"⟩) (by decide +kernel) rfl (fun p e s m args below meth c hcx zs as lv ls hs hlv hG => ?_)
  have hP : hc_addL.2.1.1.length = zs.length := hs.1.1.symm
  have hP2 : hc_addL.2.1.2.1.length = as.length := hs.2.2.1.1.symm
  have hI := hs.1
  have hrt := hs.2.2.1
  have hloc := hs.2.2.2.1
  match zs, hP, hI with
  | [z0, z1, z2], hP, hI =>
  have b0 : (1, 1).1 ≤ z0 ∧ z0 ≤ (1, 1).2 := hI.2 0 _ z0 rfl rfl
  have b1 : 0 ≤ z1 ∧ z1 ≤ 7 := hI.2 1 _ z1 rfl rfl
  have b2 : (0, 12).1 ≤ z2 ∧ z2 ≤ (0, 12).2 := hI.2 2 _ z2 rfl rfl
  match as, hP2, hrt with
  | [a], hP2, hrt =>
  have ha : Ty a 12 := hrt.2 0 _ a rfl rfl
  match lv, hloc with
  | [(_, _), (_, _), (_, _), (_, _)], ⟨rfl, ⟨a', rfl, ea⟩, rfl, ⟨x1, rfl, h1⟩, rfl, ⟨x2, rfl, h2⟩, rfl, ⟨x3, rfl, h3⟩, _⟩ =>
  have ea : a = a' := Option.some.inj ea
  subst ea
  have e1 : z0 = x1.toInt := Option.some.inj ((ksym_ev (k := 0) rfl).symm.trans h1)
  have e2 : z1 = x2.toInt := Option.some.inj ((ksym_ev (k := 1) rfl).symm.trans h2)
  have e3 : z2 = x3.toInt := Option.some.inj ((ksym_ev (k := 2) rfl).symm.trans h3)
  subst e1; subst e2; subst e3
  dsimp only at b0 b2
  exact acts_addW rfl List.mem_cons_self hcx hs hT hG ha hlv (by omega) b1 (by omega) (by omega)
set_option maxHeartbeats 4000000 in
theorem gh_addC (hX : kXok X lo) (hT : kTyp k_tt Ty) (hS : ∀ (j : Nat) (q : String × Nat × String), k_sk[j]? = some q → Ty (aS j) (ksn j)) : kGo l k_cl k_aty k_ns k_sk k_mw D cA aS k_tt Ty lo X k_ct hc_addC := fun h => by
  refine khand (y := ⟨"SilenceMatch$Acts", "add", "(ZII)V"⟩) (by decide +kernel) rfl (fun p e s m args below meth c hcx zs as lv ls hs hlv hG => ?_)
  have hP : hc_addC.2.1.1.length = zs.length := hs.1.1.symm
  have hP2 : hc_addC.2.1.2.1.length = as.length := hs.2.2.1.1.symm
  have hI := hs.1
  have hrt := hs.2.2.1
  have hloc := hs.2.2.2.1
  match zs, hP, hI with
  | [z0, z1, z2], hP, hI =>
  have b0 : (0, 0).1 ≤ z0 ∧ z0 ≤ (0, 0).2 := hI.2 0 _ z0 rfl rfl
  have b1 : 0 ≤ z1 ∧ z1 ≤ 7 := hI.2 1 _ z1 rfl rfl
  have b2 : (0, 19).1 ≤ z2 ∧ z2 ≤ (0, 19).2 := hI.2 2 _ z2 rfl rfl
  match as, hP2, hrt with
  | [a], hP2, hrt =>
  have ha : Ty a 12 := hrt.2 0 _ a rfl rfl
  match lv, hloc with
  | [(_, _), (_, _), (_, _), (_, _)], ⟨rfl, ⟨a', rfl, ea⟩, rfl, ⟨x1, rfl, h1⟩, rfl, ⟨x2, rfl, h2⟩, rfl, ⟨x3, rfl, h3⟩, _⟩ =>
  have ea : a = a' := Option.some.inj ea
  subst ea
  have e1 : z0 = x1.toInt := Option.some.inj ((ksym_ev (k := 0) rfl).symm.trans h1)
  have e2 : z1 = x2.toInt := Option.some.inj ((ksym_ev (k := 1) rfl).symm.trans h2)
  have e3 : z2 = x3.toInt := Option.some.inj ((ksym_ev (k := 2) rfl).symm.trans h3)
  subst e1; subst e2; subst e3
  dsimp only at b0 b2
  exact acts_addW rfl List.mem_cons_self hcx hs hT hG ha hlv (by omega) b1 (by omega) (by omega)
end HADD2
