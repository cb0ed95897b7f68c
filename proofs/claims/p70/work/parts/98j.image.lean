/-! BY HAND: image, back -/
section HIMG
variable {l : Launch} {D : va_G} {cA aS : Nat → Nat} {Ty : Nat → Nat → Prop} {lo : Nat} {X : State → Heap → Prop}
def kVeqb (a b : kV) : Bool := match a, b with
  | .inl f, .inl g => kLeq f g
  | .inr (.inl f), .inr (.inl g) => kLeq f g
  | .inr (.inr (.inl k)), .inr (.inr (.inl j)) => Nat.beq k j
  | _, _ => false
theorem kVeqb_ok {a b : kV} (h : kVeqb a b = true) : a = b := by
  match a, b, h with
  | .inl f, .inl g, h => rw [kLeq_eq h]
  | .inr (.inl f), .inr (.inl g), h => rw [kLeq_eq h]
  | .inr (.inr (.inl k)), .inr (.inr (.inl j)), h => rw [Nat.beq_eq.mp h]
  | .inl _, .inr _, h => cases h
  | .inr (.inl _), .inl _, h => cases h
  | .inr (.inl _), .inr (.inr _), h => cases h
  | .inr (.inr (.inl _)), .inl _, h => cases h
  | .inr (.inr (.inl _)), .inr (.inl _), h => cases h
  | .inr (.inr (.inl _)), .inr (.inr (.inr _)), h => cases h
  | .inr (.inr (.inr _)), _, h => cases h
def kfmem (q : kF) (l : List kF) : Bool := l.any (fun x => Nat.beq x.1 q.1 && (kLeq x.2.1 q.2.1 && kVeqb x.2.2 q.2.2))
theorem kfmem_ok {q : kF} {l : List kF} (h : kfmem q l = true) : q ∈ l := by
  obtain ⟨x, hx, h2⟩ := List.any_eq_true.mp h
  simp only [Bool.and_eq_true] at h2
  have e : x = q := Prod.ext (Nat.beq_eq.mp h2.1) (Prod.ext (kLeq_eq h2.2.1) (kVeqb_ok h2.2.2))
  rw [← e]
  exact hx
def gj (i : Nat) : Nat := match i with
  | 0 => 0
  | 1 => 1
  | 2 => 5
  | 3 => 6
  | _ => 10
theorem gj_lt (i : Nat) : gj i < 115 := by
  unfold gj
  split <;> decide
def im_T : kS := match hb_image.2.2.2 with
  | cu :: _ => cu.2.1.1
  | [] => ([], [], [], [], [], [])
def im_S (K : Nat) : kS := (im_T.1.set 0 ((K : Int), (K : Int)), [36, 37, 38], [(0, .inr (.inr (.inl 0))), (1, .inl (ksym 0))], [], [(0, kcst (1 : Nat), .inr (.inr (.inl 1))), (0, kcst (2 : Nat), .inr (.inr (.inl 2)))] ++ ((List.range 5).map (fun i => (1, kcst (gj i : Nat), .inl (ksym (1 + i)))) ++ (List.range 3).flatMap (fun K' => (List.range 5).map (fun i => (2, kcst (115 * K' + gj i : Nat), .inl (ksym (if K' = K then 1 + i else 6 + 5 * K' + i)))))), [])
def im_cur : kCd := (kdrop 46 cd_X10_image).getD []
theorem im_ok : ∀ K, K < 3 → kexec (kEof k_tt k_aty k_ct ow_SilenceMatchModel 3 (some .int) hc_image) (cd_X10_image, [], [], []) none 100 false im_cur (im_S K) = true := by decide +kernel
theorem im_fwb : ∀ i, i < 5 → kfmem (1, kcst (gj i : Nat), .inl (ksym (1 + i))) im_T.2.2.2.2.1 = true := by decide +kernel
theorem im_fw : ∀ i, i < 5 → ((1, kcst (gj i : Nat), .inl (ksym (1 + i))) : kF) ∈ im_T.2.2.2.2.1 := fun i hi => kfmem_ok (im_fwb i hi)
theorem im_fib : ∀ K, K < 3 → ∀ i, i < 5 → kfmem (2, kcst (115 * K + gj i : Nat), .inl (ksym (6 + 5 * K + i))) im_T.2.2.2.2.1 = true := by decide +kernel
theorem im_fi : ∀ K, K < 3 → ∀ i, i < 5 → ((2, kcst (115 * K + gj i : Nat), .inl (ksym (6 + 5 * K + i))) : kF) ∈ im_T.2.2.2.2.1 := fun K hK i hi => kfmem_ok (im_fib K hK i hi)
theorem im_f1 : ((0, kcst (1 : Nat), .inr (.inr (.inl 1))) : kF) ∈ im_T.2.2.2.2.1 := kfmem_ok (by decide +kernel)
theorem im_f2 : ((0, kcst (2 : Nat), .inr (.inr (.inl 2))) : kF) ∈ im_T.2.2.2.2.1 := kfmem_ok (by decide +kernel)
set_option maxHeartbeats 4000000 in
theorem gh_image (hX : kXok X lo) (hT : kTyp k_tt Ty) (hS : ∀ (j : Nat) (q : String × Nat × String), k_sk[j]? = some q → Ty (aS j) (ksn j)) : kGo l k_cl k_aty k_ns k_sk k_mw D cA aS k_tt Ty lo X k_ct hc_image := fun h => by
  have hR := kRest_of (l := l) (D := D) (cA := cA) (aS := aS) wc_SilenceMatchModel wf_SilenceMatchModel wm_SilenceMatchModel k_clok k_tok k_nsn hX hT hS h
  refine kbodyH_met (by decide +kernel) rfl hR dc_X10_image rfl hk_image (fun p e s m args below meth c hcx zs as hP hP2 cu hcu x u H locs lv st ls hst hlv hm => ?_)
  rcases List.mem_cons.mp hcu with rfl | hcu
  case inr => cases hcu
  have hst : kst D cA k_tt Ty (zs ++ x) (as ++ u) im_T H lv st := hst
  have hG := hm.1
  obtain ⟨hexec, hb, hml, hown, hts, hrt, hlk, hK, hXs⟩ := id hcx
  obtain ⟨a, ra, ha⟩ := kRt_at hst.2.2.1 (k := 0) (t := 36) rfl
  obtain ⟨w, rw_, hw⟩ := kRt_at hst.2.2.1 (k := 1) (t := 37) rfl
  obtain ⟨d, rd, hd⟩ := kRt_at hst.2.2.1 (k := 2) (t := 38) rfl
  obtain ⟨-, V, cV, vV⟩ := hG.1 a 36 _ ha kt36
  obtain ⟨lw, Vw, cw, vw⟩ := hG.1 w 37 _ hw kt37
  obtain ⟨ld, Vd, cd, vd⟩ := hG.1 d 38 _ hd kt38
  have haw : a ≠ w := fun e => by
    subst e
    exact absurd (kTyp_eq hT ha hw kt36 kt37) (by decide)
  have had : a ≠ d := fun e => by
    subst e
    exact absurd (kTyp_eq hT ha hd kt36 kt38) (by decide)
  have hwd : w ≠ d := fun e => by
    subst e
    exact absurd (kTyp_eq hT hw hd kt37 kt38) (by decide)
  obtain ⟨b1, e1, r1⟩ := ref_at hT hst im_f1 ra ha kt36 cV (by decide)
  have eb1 : b1 = w := Option.some.inj (r1.symm.trans rw_)
  subst eb1
  obtain ⟨b2, e2, r2⟩ := ref_at hT hst im_f2 ra ha kt36 cV (by decide)
  have eb2 : b2 = d := Option.some.inj (r2.symm.trans rd)
  subst eb2
  have fw := fun i hi => fact_int hT hst (im_fw i hi) r1 hw kt37 cw (Nat.lt_trans (gj_lt i) (by decide))
  have fi := fun K hK i hi => fact_int hT hst (im_fi K hK i hi) r2 hd kt38 cd (by have := gj_lt i; omega)
  have hloc := hst.2.2.2.1
  have hstk := hst.2.2.2.2.1
  match st, hstk with
  | _ :: _, hstk => exact hstk.elim
  | [], hstk =>
  match lv, hloc with
  | [(_, _), (_, _), (_, _)], ⟨rfl, ⟨a', rfl, ea⟩, rfl, ⟨kk, rfl, ek⟩, rfl, ⟨i0, rfl, ei⟩, _⟩ =>
  have ea : a' = a := Option.some.inj (ea.symm.trans ra)
  subst ea
  have ei : i0.toInt = ((0 : Nat) : Int) := (Option.some.inj ei).symm
  obtain ⟨z0, rz⟩ := kI_some hst.1 (k := 0) rfl
  obtain ⟨zl, zu⟩ := hst.1.2 0 _ z0 rfl rz
  have zl : 0 ≤ z0 := zl
  have zu : z0 ≤ 2 := zu
  have ezk : z0 = kk.toInt := Option.some.inj ((ksym_ev rz).symm.trans ek)
  have hKz : kk.toInt = ((z0.toNat : Nat) : Int) := by omega
  have hK3 : z0.toNat < 3 := by omega
  have hzK : z0 = ((z0.toNat : Nat) : Int) := by omega
  generalize z0.toNat = K at hKz hK3 hzK
  refine img_loop (H0 := H) (lo := lo) (Vd := Vd) hexec hb hts hown hK dc_X10_image hKz hK3 had hwd ld e1 e2 (fun j hj => any_int vw (List.mem_append_right _ List.mem_cons_self) hj) (fun i ls1 H1 locs1 hi1 hl1 c36 cs cd1 ho1 hz1 hlc1 => ?_) 115 0 i0 ls H locs (by omega) ei hlv cV cw (by rw [cpv_zero]; exact cd) (fun _ _ => rfl) rfl hm.2.2.2
  have hv1 : kvals Ty kt_38 (cpv Vw Vd 0 (115 * K) 115) := v38_of (fun K' hK' => by
    by_cases hk : K' = K
    · subst hk
      exact v37_congr vw (fun j hj => by rw [cpv_in hj, Nat.zero_add])
    · exact v37_congr (v38_to vd hK') (fun j hj => cpv_out (by omega)))
  have hG1 : kgood D cA k_tt Ty lo H1 := kgood_of hT hG [(b2, 38)] (List.forall_mem_cons.mpr ⟨⟨Nat.blt_eq.mp rfl, hd, fun T hT2 => by cases Option.some.inj (kt38.symm.trans hT2); exact ⟨_, cd1, hv1⟩⟩, fun _ h => absurd h List.not_mem_nil⟩) (fun q hq => ho1 q (hq _ List.mem_cons_self)) (kY_kept hT hG.2 hd kt38 rfl ho1)
  have hkp : kkp D cA k_tt Ty hc_image.2.2.2.2.1 H H1 := kkp_of hT [(b2, 38)] (List.forall_mem_cons.mpr ⟨⟨Nat.blt_eq.mp rfl, hd, Or.inl (show ((38, none) : Nat × Option Nat) ∈ hc_image.2.2.2.2.1 by decide)⟩, fun _ h => absurd h List.not_mem_nil⟩) (fun q hq => ho1 q (hq _ List.mem_cons_self))
  refine kfrom (S := im_S K) (cal := []) hcx hR hP hP2 dc_X10_image (cur := im_cur) rfl (im_ok K hK3) (x := x) (u := u) (lv := [(0, .ref a'), (1, .int kk)]) ⟨kI_set hst.1 (fun z hz => by
    have : z = z0 := Option.some.inj (hz.symm.trans rz)
    subst this
    exact ⟨by show (K : Int) ≤ z; omega, by show z ≤ (K : Int); omega⟩), (fun g hg => by cases hg), hst.2.2.1, ⟨rfl, ⟨a', rfl, ra⟩, rfl, ⟨kk, rfl, ek⟩, trivial⟩, trivial, ?_⟩ (lv_sub hl1 [0, 1] rfl) ⟨hG1, kfr_trans hm.2.1 ⟨hz1, fun q hq => ho1 q (by omega)⟩, kkp_trans hm.2.2.1 hkp, hlc1⟩
  refine List.forall_mem_append.mpr ⟨List.forall_mem_cons.mpr ⟨fact_ref hT ra ha kt36 c36 (by decide) e1 r1, List.forall_mem_cons.mpr ⟨fact_ref hT ra ha kt36 c36 (by decide) e2 r2, fun _ h => absurd h List.not_mem_nil⟩⟩, List.forall_mem_append.mpr ⟨fun q hq => ?_, fun q hq => ?_⟩⟩
  · obtain ⟨j, hj, rfl⟩ := List.mem_map.mp hq
    obtain ⟨n, en, kn⟩ := fw j (List.mem_range.mp hj)
    exact fact_mk hT r1 hw kt37 cs (gj_lt j) en kn
  · obtain ⟨K', hK', hq⟩ := List.mem_flatMap.mp hq
    obtain ⟨j, hj, rfl⟩ := List.mem_map.mp hq
    have hK' := List.mem_range.mp hK'
    have hj := List.mem_range.mp hj
    have hjl := gj_lt j
    by_cases hk : K' = K
    · subst hk
      obtain ⟨n, en, kn⟩ := fw j hj
      rw [if_pos rfl]
      exact fact_mk hT r2 hd kt38 cd1 (show 115 * K' + gj j < 345 by omega) (by rw [cpv_in hjl, Nat.zero_add]; exact en) kn
    · obtain ⟨n, en, kn⟩ := fi K' hK' j hj
      rw [if_neg hk]
      exact fact_mk hT r2 hd kt38 cd1 (show 115 * K' + gj j < 345 by omega) (by rw [cpv_out (by omega)]; exact en) kn
def bk_T : kS := match hb_back.2.2.2 with
  | cu :: _ => cu.2.1.1
  | [] => ([], [], [], [], [], [])
def bk_S (K : Nat) : kS := (bk_T.1.set 0 ((K : Int), (K : Int)), [36, 37, 38], [(0, .inr (.inr (.inl 0))), (1, .inl (ksym 0))], [], [(0, kcst (1 : Nat), .inr (.inr (.inl 1))), (0, kcst (2 : Nat), .inr (.inr (.inl 2)))] ++ ((List.range 5).map (fun i => (1, kcst (gj i : Nat), .inl (ksym (6 + 5 * K + i)))) ++ (List.range 3).flatMap (fun K' => (List.range 5).map (fun i => (2, kcst (115 * K' + gj i : Nat), .inl (ksym (6 + 5 * K' + i)))))), [])
def bk_cur : kCd := (kdrop 58 cd_X10_back).getD []
theorem bk_ok : ∀ K, K < 3 → kexec (kEof k_tt k_aty k_ct ow_SilenceMatchModel 3 (some .int) hc_back) (cd_X10_back, [], [], []) none 100 false bk_cur (bk_S K) = true := by decide +kernel
theorem bk_fwb : ∀ i, i < 5 → kfmem (1, kcst (gj i : Nat), .inl (ksym (1 + i))) bk_T.2.2.2.2.1 = true := by decide +kernel
theorem bk_fw : ∀ i, i < 5 → ((1, kcst (gj i : Nat), .inl (ksym (1 + i))) : kF) ∈ bk_T.2.2.2.2.1 := fun i hi => kfmem_ok (bk_fwb i hi)
theorem bk_fib : ∀ K, K < 3 → ∀ i, i < 5 → kfmem (2, kcst (115 * K + gj i : Nat), .inl (ksym (6 + 5 * K + i))) bk_T.2.2.2.2.1 = true := by decide +kernel
theorem bk_fi : ∀ K, K < 3 → ∀ i, i < 5 → ((2, kcst (115 * K + gj i : Nat), .inl (ksym (6 + 5 * K + i))) : kF) ∈ bk_T.2.2.2.2.1 := fun K hK i hi => kfmem_ok (bk_fib K hK i hi)
theorem bk_f1 : ((0, kcst (1 : Nat), .inr (.inr (.inl 1))) : kF) ∈ bk_T.2.2.2.2.1 := kfmem_ok (by decide +kernel)
theorem bk_f2 : ((0, kcst (2 : Nat), .inr (.inr (.inl 2))) : kF) ∈ bk_T.2.2.2.2.1 := kfmem_ok (by decide +kernel)
set_option maxHeartbeats 4000000 in
theorem gh_back (hX : kXok X lo) (hT : kTyp k_tt Ty) (hS : ∀ (j : Nat) (q : String × Nat × String), k_sk[j]? = some q → Ty (aS j) (ksn j)) : kGo l k_cl k_aty k_ns k_sk k_mw D cA aS k_tt Ty lo X k_ct hc_back := fun h => by
  have hR := kRest_of (l := l) (D := D) (cA := cA) (aS := aS) wc_SilenceMatchModel wf_SilenceMatchModel wm_SilenceMatchModel k_clok k_tok k_nsn hX hT hS h
  refine kbodyH_met (by decide +kernel) rfl hR dc_X10_back rfl hk_back (fun p e s m args below meth c hcx zs as hP hP2 cu hcu x u H locs lv st ls hst hlv hm => ?_)
  rcases List.mem_cons.mp hcu with rfl | hcu
  case inr => cases hcu
  have hst : kst D cA k_tt Ty (zs ++ x) (as ++ u) bk_T H lv st := hst
  have hG := hm.1
  obtain ⟨hexec, hb, hml, hown, hts, hrt, hlk, hK, hXs⟩ := id hcx
  obtain ⟨a, ra, ha⟩ := kRt_at hst.2.2.1 (k := 0) (t := 36) rfl
  obtain ⟨w, rw_, hw⟩ := kRt_at hst.2.2.1 (k := 1) (t := 37) rfl
  obtain ⟨d, rd, hd⟩ := kRt_at hst.2.2.1 (k := 2) (t := 38) rfl
  obtain ⟨-, V, cV, vV⟩ := hG.1 a 36 _ ha kt36
  obtain ⟨lw, Vw, cw, vw⟩ := hG.1 w 37 _ hw kt37
  obtain ⟨ld, Vd, cd, vd⟩ := hG.1 d 38 _ hd kt38
  have haw : a ≠ w := fun e => by
    subst e
    exact absurd (kTyp_eq hT ha hw kt36 kt37) (by decide)
  have had : a ≠ d := fun e => by
    subst e
    exact absurd (kTyp_eq hT ha hd kt36 kt38) (by decide)
  have hwd : w ≠ d := fun e => by
    subst e
    exact absurd (kTyp_eq hT hw hd kt37 kt38) (by decide)
  obtain ⟨b1, e1, r1⟩ := ref_at hT hst bk_f1 ra ha kt36 cV (by decide)
  have eb1 : b1 = w := Option.some.inj (r1.symm.trans rw_)
  subst eb1
  obtain ⟨b2, e2, r2⟩ := ref_at hT hst bk_f2 ra ha kt36 cV (by decide)
  have eb2 : b2 = d := Option.some.inj (r2.symm.trans rd)
  subst eb2
  have fw := fun i hi => fact_int hT hst (bk_fw i hi) r1 hw kt37 cw (Nat.lt_trans (gj_lt i) (by decide))
  have fi := fun K hK i hi => fact_int hT hst (bk_fi K hK i hi) r2 hd kt38 cd (by have := gj_lt i; omega)
  have hloc := hst.2.2.2.1
  have hstk := hst.2.2.2.2.1
  match st, hstk with
  | _ :: _, hstk => exact hstk.elim
  | [], hstk =>
  match lv, hloc with
  | [(_, _), (_, _), (_, _)], ⟨rfl, ⟨a', rfl, ea⟩, rfl, ⟨kk, rfl, ek⟩, rfl, ⟨i0, rfl, ei⟩, _⟩ =>
  have ea : a' = a := Option.some.inj (ea.symm.trans ra)
  subst ea
  have ei : i0.toInt = ((0 : Nat) : Int) := (Option.some.inj ei).symm
  obtain ⟨z0, rz⟩ := kI_some hst.1 (k := 0) rfl
  obtain ⟨zl, zu⟩ := hst.1.2 0 _ z0 rfl rz
  have zl : 0 ≤ z0 := zl
  have zu : z0 ≤ 2 := zu
  have ezk : z0 = kk.toInt := Option.some.inj ((ksym_ev rz).symm.trans ek)
  have hKz : kk.toInt = ((z0.toNat : Nat) : Int) := by omega
  have hK3 : z0.toNat < 3 := by omega
  have hzK : z0 = ((z0.toNat : Nat) : Int) := by omega
  generalize z0.toNat = K at hKz hK3 hzK
  refine bck_loop (H0 := H) (lo := lo) (Vd := Vw) hexec hb hts hown hK dc_X10_back hKz hK3 haw (Ne.symm hwd) lw e2 e1 (fun j hj => any_int vd (List.mem_append_right _ List.mem_cons_self) hj) (fun i ls1 H1 locs1 hi1 hl1 c36 cs cd1 ho1 hz1 hlc1 => ?_) 115 0 i0 ls H locs (by omega) ei hlv cV cd (by rw [cpv_zero]; exact cw) (fun _ _ => rfl) rfl hm.2.2.2
  have hv1 : kvals Ty kt_37 (cpv Vd Vw (115 * K) 0 115) := v37_congr (v38_to vd hK3) (fun j hj => by
    have := cpv_in (Vs := Vd) (Vd := Vw) (so := 115 * K) (off := 0) hj
    rw [Nat.zero_add] at this
    exact this)
  have hG1 : kgood D cA k_tt Ty lo H1 := kgood_of hT hG [(b1, 37)] (List.forall_mem_cons.mpr ⟨⟨Nat.blt_eq.mp rfl, hw, fun T hT2 => by cases Option.some.inj (kt37.symm.trans hT2); exact ⟨_, cd1, hv1⟩⟩, fun _ h => absurd h List.not_mem_nil⟩) (fun q hq => ho1 q (hq _ List.mem_cons_self)) (kY_kept hT hG.2 hw kt37 rfl ho1)
  have hkp : kkp D cA k_tt Ty hc_back.2.2.2.2.1 H H1 := kkp_of hT [(b1, 37)] (List.forall_mem_cons.mpr ⟨⟨Nat.blt_eq.mp rfl, hw, Or.inl (show ((37, none) : Nat × Option Nat) ∈ hc_back.2.2.2.2.1 by decide)⟩, fun _ h => absurd h List.not_mem_nil⟩) (fun q hq => ho1 q (hq _ List.mem_cons_self))
  refine kfrom (S := bk_S K) (cal := []) hcx hR hP hP2 dc_X10_back (cur := bk_cur) rfl (bk_ok K hK3) (x := x) (u := u) (lv := [(0, .ref a'), (1, .int kk)]) ⟨kI_set hst.1 (fun z hz => by
    have : z = z0 := Option.some.inj (hz.symm.trans rz)
    subst this
    exact ⟨by show (K : Int) ≤ z; omega, by show z ≤ (K : Int); omega⟩), (fun g hg => by cases hg), hst.2.2.1, ⟨rfl, ⟨a', rfl, ra⟩, rfl, ⟨kk, rfl, ek⟩, trivial⟩, trivial, ?_⟩ (lv_sub hl1 [0, 1] rfl) ⟨hG1, kfr_trans hm.2.1 ⟨hz1, fun q hq => ho1 q (by omega)⟩, kkp_trans hm.2.2.1 hkp, hlc1⟩
  refine List.forall_mem_append.mpr ⟨List.forall_mem_cons.mpr ⟨fact_ref hT ra ha kt36 c36 (by decide) e1 r1, List.forall_mem_cons.mpr ⟨fact_ref hT ra ha kt36 c36 (by decide) e2 r2, fun _ h => absurd h List.not_mem_nil⟩⟩, List.forall_mem_append.mpr ⟨fun q hq => ?_, fun q hq => ?_⟩⟩
  · obtain ⟨j, hj, rfl⟩ := List.mem_map.mp hq
    obtain ⟨n, en, kn⟩ := fi K hK3 j (List.mem_range.mp hj)
    have hjl := gj_lt j
    exact fact_mk hT r1 hw kt37 cd1 hjl (by
      have := cpv_in (Vs := Vd) (Vd := Vw) (so := 115 * K) (off := 0) hjl
      rw [Nat.zero_add] at this
      rw [this]
      exact en) kn
  · obtain ⟨K', hK', hq⟩ := List.mem_flatMap.mp hq
    obtain ⟨j, hj, rfl⟩ := List.mem_map.mp hq
    have hK' := List.mem_range.mp hK'
    have hj := List.mem_range.mp hj
    have hjl := gj_lt j
    obtain ⟨n, en, kn⟩ := fi K' hK' j hj
    exact fact_mk hT r2 hd kt38 cs (show 115 * K' + gj j < 345 by omega) en kn
end HIMG
