/-! BY HAND: Acts.takeBack where a lozenge is taken back: what stood there is at most 12 -/
section HTB
variable {l : Launch} {D : va_G} {cA aS : Nat → Nat} {Ty : Nat → Nat → Prop} {lo : Nat} {X : State → Heap → Prop}
def tb_S : kS := ([(0, 39), (0, 12)], [12, 4, 13, 15], [(0, .inr (.inr (.inl 0))), (1, .inr (.inr (.inl 1)))], [], [(0, kcst 0, .inl (ksym 0)), (0, kcst 1, .inr (.inr (.inl 2))), (2, ksym 0, .inl (kcst 1)), (0, kcst 3, .inr (.inr (.inl 3))), (3, ksym 0, .inl (ksym 1))], [])
def tb_cur : kCd := (kdrop 31 cd_X0_takeBack).getD []
theorem tb_ok : kexec (kEof k_tt k_aty k_ct ow_SilenceMatch_Acts 2 none hc_takeBack) (cd_X0_takeBack, [], [], []) none 100 false tb_cur tb_S = true := by decide +kernel
theorem kfactN {D : va_G} {cA : Nat → ClassId} {tt : List kT} {Ty : Nat → Nat → Prop} {env : List Int} {ren : List Nat} {S : kS} {H : Heap} {lv : List (Nat × Value)} {st : List Value} {q : kF} (h : kst D cA tt Ty env ren S H lv st) (hq : q ∈ S.2.2.2.2.1) (hg : kghx q.2.1 = false) : kfokN D cA tt Ty env ren H q := kfok_N (h.2.2.2.2.2 q hq) hg
set_option maxHeartbeats 4000000 in
theorem gh_takeBack (hX : kXok X lo) (hT : kTyp k_tt Ty) (hS : ∀ (j : Nat) (q : String × Nat × String), k_sk[j]? = some q → Ty (aS j) (ksn j)) : kGo l k_cl k_aty k_ns k_sk k_mw D cA aS k_tt Ty lo X k_ct hc_takeBack := fun h => by
  have hR := kRest_of (l := l) (D := D) (cA := cA) (aS := aS) wc_SilenceMatch_Acts wf_SilenceMatch_Acts wm_SilenceMatch_Acts k_clok k_tok k_nsn hX hT hS h
  refine kbodyH_met (by decide +kernel) rfl hR dc_X0_takeBack rfl hk_takeBack (fun p e s m args below meth c hcx zs as hP hP2 cu hcu x u H locs lv st ls hst hlv hm => ?_)
  rcases List.mem_cons.mp hcu with rfl | hcu
  case inr => cases hcu
  have hG := hm.1
  obtain ⟨a, ra, ha⟩ := kRt_at hst.2.2.1 (k := 0) (t := 12) rfl
  obtain ⟨V, Vo, Vp, Vw, n, hc, co, cp, cw, hv, vo, vp, vw, e0, n0, n40, l1, l2, l3, t1, t2, t3, hlo⟩ := acts_at hG ha
  obtain ⟨z, rz⟩ := kI_some hst.1 (k := 0) rfl
  obtain ⟨z0, z39⟩ := hst.1.2 0 _ z rfl rz
  have z0 : 0 ≤ z := z0
  have z39 : z ≤ 39 := z39
  have ez : z = ((z.toNat : Nat) : Int) := (Int.toNat_of_nonneg z0).symm
  -- the row of kinds
  obtain ⟨a1, q1, T1, V1, j1, g1, g2, g3, g4, g5, g6, o', g7, g8⟩ := kfactN hst (q := (0, kcst 1, .inr (.inr (.inl 2)))) (List.mem_of_getElem? (i := 1) rfl) rfl
  have ea1 : a1 = a := Option.some.inj (g1.symm.trans ra)
  subst ea1
  have et1 := kTyp_eq hT g2 ha g3 kt12
  subst et1
  cases Option.some.inj (kt12.symm.trans g3)
  have ej1 : (1 : Int) = (j1 : Int) := Option.some.inj (kcst_ev.symm.trans g5)
  have ej1 : j1 = 1 := by omega
  subst ej1
  have eo : o' = a1 + 1 := by
    have h1 := kcell_uniq g4 hc (j := 1) (by decide)
    have : Value.ref o' = Value.ref (a1 + 1) := g7.symm.trans (h1.trans l1)
    injection this
  subst eo
  -- what stands there: 1
  obtain ⟨b1, q2, T2, V2, j2, f1, f2, f3, f4, f5, f6, v2, f7, f8⟩ := kfactN hst (q := (2, ksym 0, .inl (kcst 1))) (List.mem_of_getElem? (i := 2) rfl) rfl
  have eb : b1 = a1 + 1 := Option.some.inj (f1.symm.trans g8)
  subst eb
  have et2 := kTyp_eq hT f2 t1 f3 kt13
  subst et2
  cases Option.some.inj (kt13.symm.trans f3)
  have ej2 : z = (j2 : Int) := Option.some.inj ((ksym_ev rz).symm.trans f5)
  have ev2 : v2 = 1 := by
    have : (1 : Int) = v2.toInt := Option.some.inj (kcst_ev.symm.trans f8)
    apply Int32.toInt_inj.mp
    rw [← this]
    rfl
  subst ev2
  have hVo : Vo j2 = .int 1 := (kcell_uniq co f4 f6).trans f7
  have hj2 : j2 < 40 := f6
  obtain ⟨k, ek, r, hr, k1, k2⟩ := vw.1 (0, 1, 40, .inl [(0, 19)]) List.mem_cons_self j2 hj2
  have er : r = (0, 19) := by simpa using hr
  subst er
  have ek : Vw j2 = .int k := by
    rw [Nat.zero_add, Nat.one_mul] at ek
    exact ek
  have hk12 := hG.2.2 a1 (a1 + 1) (a1 + 3) _ _ _ V Vo Vw j2 k ha kt12 hc l1 l3 t1 kt13 co t3 kt15 cw hj2 hVo ek
  have hI2 := kI_push (q := (0, 12)) hst.1 (z := k.toInt) k1 hk12
  have hR2 := kRt_push hst.2.2.1 t3
  have hk0 : ((zs ++ x) ++ [k.toInt])[1]? = some k.toInt := kI_at hst.1
  have hr3 : ((as ++ u) ++ [a1 + 3])[3]? = some (a1 + 3) := by
    have := hst.2.2.1.1
    rw [List.getElem?_append_right (by rw [this]; decide), this]
    rfl
  refine kfrom (S := tb_S) (cal := []) hcx hR hP hP2 dc_X0_takeBack (cur := tb_cur) rfl tb_ok (x := x ++ [k.toInt]) (u := u ++ [a1 + 3]) ?_ hlv hm
  rw [← List.append_assoc, ← List.append_assoc]
  refine ⟨hI2, fun g hg => (by cases hg), hR2, kLoc_ext hst.2.2.2.1, kStk_ext hst.2.2.2.2.1, List.forall_mem_cons.mpr ⟨kfok_ext (hst.2.2.2.2.2 _ (List.mem_of_getElem? (i := 0) rfl)), List.forall_mem_cons.mpr ⟨kfok_ext (hst.2.2.2.2.2 _ (List.mem_of_getElem? (i := 1) rfl)), List.forall_mem_cons.mpr ⟨kfok_ext (hst.2.2.2.2.2 _ (List.mem_of_getElem? (i := 2) rfl)), List.forall_mem_cons.mpr ⟨?_, List.forall_mem_cons.mpr ⟨?_, fun _ h => absurd h List.not_mem_nil⟩⟩⟩⟩⟩⟩
  · exact kfok_mk hT ⟨a1, 12, kt_12, V, 3, kget_ext ra, ha, kt12, hc, kcst_ev, by decide, ⟨a1 + 3, l3, hr3⟩⟩
  · exact kfok_mk hT ⟨a1 + 3, 15, kt_15, Vw, j2, hr3, t3, kt15, cw, by rw [← ej2]; exact ksym_ev (kget_ext rz), hj2, ⟨k, ek, ksym_ev hk0⟩⟩
end HTB
