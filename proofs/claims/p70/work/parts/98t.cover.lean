/-! BY HAND: how many cover -/
section HCVR
variable {l : Launch} {D : va_G} {cA aS : Nat → Nat} {Ty : Nat → Nat → Prop} {lo : Nat} {X : State → Heap → Prop}
theorem c_fact {env : List Int} {ren : List Nat} {H : Heap} {q : kF} {a t ix : Nat} {T : kT} {V : Nat → Value} (hTy : kTyp k_tt Ty) (h : kfok D cA k_tt Ty env ren H q) (hg : kghx q.2.1 = false) (hi : ren[q.1]? = some a) (ha : Ty a t) (hT : k_tt[t]? = some T) (hx : kev env q.2.1 = some (ix : Int)) (hc : kcell D cA T a H V) (hlt : ix < T.2.1) : kvok env ren q.2.2 (V ix) := by
  obtain ⟨a', t', T', V', z', h1, h2, h3, h4, h5, h6, h7⟩ := kfok_N h hg
  obtain rfl : a = a' := Option.some.inj (hi.symm.trans h1)
  obtain rfl : t = t' := kTyp_eq hTy ha h2 hT h3
  obtain rfl : T = T' := Option.some.inj (hT.symm.trans h3)
  have e : (ix : Int) = (z' : Int) := Option.some.inj (hx.symm.trans h5)
  obtain rfl : ix = z' := by omega
  rw [kcell_uniq hc h4 hlt]
  exact h7
theorem cF_kkp {ca n : Nat} {wr : kW} {H H' : Heap} (hca : Ty ca 47) (hn : n ≤ 20) (hwr : ∀ q ∈ wr, q.1 ≠ 47) (hG : kgood D cA k_tt Ty lo H) (hk : kkp D cA k_tt Ty wr H H') (h : cF D cA ca n n H) : cF D cA ca n n H' := fun V hV c hc => by
  obtain ⟨-, V0, hV0, -⟩ := hG.1 ca 47 _ hca kt47
  obtain ⟨V2, v1, v2⟩ := hk ca 47 kt_47 V0 c hca kt47 hV0 (show c < 20 by omega) (fun q hq e => absurd e (hwr q hq))
  obtain ⟨x, g1, g2⟩ := h V0 hV0 c hc
  exact ⟨x, by rw [kcell_uniq hV v1 (show c < 20 by omega), v2]; exact g1, g2⟩
theorem kkp_sub {wr wr' : kW} {H H' : Heap} (hs : ∀ q ∈ wr, q ∈ wr') (h : kkp D cA k_tt Ty wr H H') : kkp D cA k_tt Ty wr' H H' := fun a t T V j ha hT hc hj hw => h a t T V j ha hT hc hj (fun q hq => hw q (hs q hq))
def cv_0 : kS := (hc_coverOf.2.1.1, [36, 37], [], [], [], [])
def cv_1 : kS := (hc_coverOf.2.1.1 ++ [(1, 20)], [36, 37], [(4, .inl (ksym 5))], [], [], [])
theorem cv_ok0 : kexec (kEof k_tt k_aty k_ct ow_SilenceMatchModel 5 (some .int) hc_coverOf) (cd_X10_coverOf, [], [], []) none 10 false ((kdrop 5 cd_X10_coverOf).getD []) cv_0 = true := by decide +kernel
theorem cv_ok1 : kexec (kEof k_tt k_aty k_ct ow_SilenceMatchModel 5 (some .int) hc_coverOf) (cd_X10_coverOf, [], [], []) none 10 false ((kdrop 34 cd_X10_coverOf).getD []) cv_1 = true := by decide +kernel
set_option maxHeartbeats 8000000 in
theorem gh_coverOf (hX : kXok X lo) (hT : kTyp k_tt Ty) (hS : ∀ (j : Nat) (q : String × Nat × String), k_sk[j]? = some q → Ty (aS j) (ksn j)) : kGo l k_cl k_aty k_ns k_sk k_mw D cA aS k_tt Ty lo X k_ct hc_coverOf := fun h => by
  have hR := kRest_of (l := l) (D := D) (cA := cA) (aS := aS) wc_SilenceMatchModel wf_SilenceMatchModel wm_SilenceMatchModel k_clok k_tok k_nsn hX hT hS h
  refine khand (y := ⟨"SilenceMatchModel", "coverOf", "(II)I"⟩) (by decide +kernel) rfl (fun p e s m args below meth c hcx zs as lv ls hs hlv hG => ?_)
  have hP : hc_coverOf.2.1.1.length = zs.length := hs.1.1.symm
  have hP2 : hc_coverOf.2.1.2.1.length = as.length := hs.2.2.1.1.symm
  have hiv := hs.1
  have hrt0 := hs.2.2.1
  have hloc := hs.2.2.2.1
  have hfa := hs.2.2.2.2.2
  match zs, hP, hiv, hloc, hfa with
  | [z0, z1, z2, z3, z4], hP, hiv, hloc, hfa =>
  match as, hP2, hrt0, hloc, hfa with
  | [r, w], hP2, hrt0, hloc, hfa =>
  have hr : Ty r 36 := hrt0.2 0 _ r rfl rfl
  have hw : Ty w 37 := hrt0.2 1 _ w rfl rfl
  match lv, hloc with
  | [(_, _), (_, _), (_, _)], ⟨rfl, ⟨r', rfl, er⟩, rfl, ⟨ka, rfl, ea⟩, rfl, ⟨kb, rfl, eb⟩, _⟩ =>
  have er : r = r' := Option.some.inj er
  subst er
  have ea : z0 = ka.toInt := by
    have e0 : kev [z0, z1, z2, z3, z4] ([(0, 1)], 0) = some z0 := ksym_ev rfl
    exact Option.some.inj (e0.symm.trans ea)
  have eb : z1 = kb.toInt := by
    have e0 : kev [z0, z1, z2, z3, z4] ([(1, 1)], 0) = some z1 := ksym_ev rfl
    exact Option.some.inj (e0.symm.trans eb)
  have i0 : (0 : Int) ≤ z0 ∧ z0 ≤ 9 := hiv.2 0 _ z0 rfl rfl
  have i1 : (1 : Int) ≤ z1 ∧ z1 ≤ 12 := hiv.2 1 _ z1 rfl rfl
  have i2 : (1 : Int) ≤ z2 ∧ z2 ≤ 5 := hiv.2 2 _ z2 rfl rfl
  have i3 : (1 : Int) ≤ z3 ∧ z3 ≤ 4 := hiv.2 3 _ z3 rfl rfl
  obtain ⟨hlo, V, hc, hv⟩ := hG.1 r 36 _ hr kt36
  obtain ⟨-, W', hcw, -⟩ := hG.1 w 37 _ hw kt37
  obtain ⟨ca, e28, hca⟩ := hv.1 (28, 1, 1, .inr (.inr 47)) (List.mem_of_getElem? (i := 28) rfl) 0 (by decide)
  obtain ⟨cb, e29, hcb⟩ := hv.1 (29, 1, 1, .inr (.inr 48)) (List.mem_of_getElem? (i := 29) rfl) 0 (by decide)
  obtain ⟨cr, e30, hcr⟩ := hv.1 (30, 1, 1, .inr (.inr 49)) (List.mem_of_getElem? (i := 30) rfl) 0 (by decide)
  obtain ⟨w', e1, ew⟩ : kvok [z0, z1, z2, z3, z4] [r, w] (.inr (.inr (.inl 1))) (V 1) := c_fact (q := (0, ([], 1), .inr (.inr (.inl 1)))) hT (hfa _ (List.mem_of_getElem? (i := 0) rfl)) rfl rfl hr kt36 kcst_ev hc (by decide)
  have ew : w = w' := Option.some.inj ew
  subst ew
  obtain ⟨w0, f0, ew0⟩ : kvok [z0, z1, z2, z3, z4] [r, w] (.inl ([(2, 1)], 0)) (W' 0) := c_fact (q := (1, ([], 0), .inl ([(2, 1)], 0))) hT (hfa _ (List.mem_of_getElem? (i := 1) rfl)) rfl rfl hw kt37 kcst_ev hcw (by decide)
  obtain ⟨w1, f1, ew1⟩ : kvok [z0, z1, z2, z3, z4] [r, w] (.inl ([(3, 1)], 0)) (W' 1) := c_fact (q := (1, ([], 1), .inl ([(3, 1)], 0))) hT (hfa _ (List.mem_of_getElem? (i := 2) rfl)) rfl rfl hw kt37 kcst_ev hcw (by decide)
  have ew0 : z2 = w0.toInt := by
    have e0 : kev [z0, z1, z2, z3, z4] ([(2, 1)], 0) = some z2 := ksym_ev rfl
    exact Option.some.inj (e0.symm.trans ew0)
  have ew1 : z3 = w1.toInt := by
    have e0 : kev [z0, z1, z2, z3, z4] ([(3, 1)], 0) = some z3 := ksym_ev rfl
    exact Option.some.inj (e0.symm.trans ew1)
  have h0 : ¬ w0 = 0 := fun e0 => by
    rw [e0] at ew0
    have : (0 : Int32).toInt = 0 := rfl
    omega
  obtain ⟨n, hn, hn1, hn2⟩ : ∃ n : Nat, w0 * w1 = Int32.ofNat n ∧ 1 ≤ n ∧ n ≤ 20 := by
    have hp : (1 : Int) ≤ w0.toInt * w1.toInt ∧ w0.toInt * w1.toInt ≤ 20 := by
      rw [← ew0, ← ew1]
      have g1 : (1 : Int) * 1 ≤ z2 * z3 := Int.mul_le_mul (by omega) (by omega) (by omega) (by omega)
      have g2 : z2 * z3 ≤ 5 * 4 := Int.mul_le_mul (by omega) (by omega) (by omega) (by omega)
      omega
    refine ⟨(w0.toInt * w1.toInt).toNat, ?_, by omega, by omega⟩
    apply Int32.toInt_inj.mp
    rw [Int32.toInt_mul, c_ofn (by omega), k32_bm (by show (-2147483648 : Int) ≤ _; omega) (by show _ ≤ (2147483647 : Int); omega)]
    omega
  obtain ⟨hexec, hb, hml, hown, hts, hrt, hlk, hK, hXs⟩ := id hcx
  have hown : s.vm.findClass "SilenceMatchModel" = some m.cls := hown
  have dc := dc_X10_coverOf
  have d0 := dc _ (List.mem_of_getElem? (i := 0) rfl)
  have d1 := dc _ (List.mem_of_getElem? (i := 1) rfl)
  have d2 := dc _ (List.mem_of_getElem? (i := 2) rfl)
  have d5 := dc _ (List.mem_of_getElem? (i := 3) rfl)
  have d6 := dc _ (List.mem_of_getElem? (i := 4) rfl)
  have d7 := dc _ (List.mem_of_getElem? (i := 5) rfl)
  have d8 := dc _ (List.mem_of_getElem? (i := 6) rfl)
  have d9 := dc _ (List.mem_of_getElem? (i := 7) rfl)
  have d10 := dc _ (List.mem_of_getElem? (i := 8) rfl)
  have d11 := dc _ (List.mem_of_getElem? (i := 9) rfl)
  have d14 := dc _ (List.mem_of_getElem? (i := 10) rfl)
  have d15 := dc _ (List.mem_of_getElem? (i := 11) rfl)
  have d16 := dc _ (List.mem_of_getElem? (i := 12) rfl)
  have d18 := dc _ (List.mem_of_getElem? (i := 13) rfl)
  have d19 := dc _ (List.mem_of_getElem? (i := 14) rfl)
  have d21 := dc _ (List.mem_of_getElem? (i := 15) rfl)
  have d22 := dc _ (List.mem_of_getElem? (i := 16) rfl)
  have d25 := dc _ (List.mem_of_getElem? (i := 17) rfl)
  have d28 := dc _ (List.mem_of_getElem? (i := 18) rfl)
  have d31 := dc _ (List.mem_of_getElem? (i := 19) rfl)
  have d34 := dc _ (List.mem_of_getElem? (i := 20) rfl)
  have d36 := dc _ (List.mem_of_getElem? (i := 21) rfl)
  dsimp only at d0 d1 d2 d5 d6 d7 d8 d9 d10 d11 d14 d15 d16 d18 d19 d21 d22 d25 d28 d31 d34 d36
  have hP3 : cP3 D cA r w ca cb cr w0 w1 s.heap := ⟨V, W', hc, e1, e28, e29, e30, hcw, f0, f1⟩
  have hmP : ∀ {H : Heap} {locs : List Loc}, kmov D cA k_tt Ty lo hc_coverOf.2.2.2.2.1 s.heap H locs → cP3 D cA r w ca cb cr w0 w1 H := fun hm => cP3_mov hr hw (fun q hq => by
    rcases List.mem_cons.mp hq with rfl | hq
    · exact ⟨by decide, by decide⟩
    · rcases List.mem_cons.mp hq with rfl | hq
      · exact ⟨by decide, by decide⟩
      · obtain rfl := List.mem_singleton.mp hq
        exact ⟨by decide, by decide⟩) hP3 hm
  have hm0 : kmov D cA k_tt Ty lo hc_coverOf.2.2.2.2.1 s.heap s.heap [] := ⟨hG, kfr_rfl, kkp_rfl, fun q hq => by cases hq⟩
  refine lv_iload_n hexec hb d0 rfl (lv_at hlv 2 rfl) ?_
  refine lv_iload_n hexec hb d1 rfl (lv_at hlv 1 rfl) ?_
  refine lv_icmp_ge (tgt := 7) hexec hb d2 rfl (fun hge => ?_) (fun _ => ?_)
  case _ =>
    have hge := Int32.le_iff_toInt_le.mp hge
    refine lv_aload_n hexec hb d7 rfl (lv_at hlv 0 rfl) ?_
    refine lv_iload_n hexec hb d8 rfl (lv_at hlv 2 rfl) ?_
    refine lv_iload_n hexec hb d9 rfl (lv_at hlv 1 rfl) ?_
    refine lv_isub hexec hb d10 ?_
    have hwi : 0 ≤ (kb - ka).toInt := by
      rw [Int32.toInt_sub, k32_bm (by show (-2147483648 : Int) ≤ _; omega) (by show _ ≤ (2147483647 : Int); omega)]
      omega
    refine h_callV (lo := lo) (As := [.int (kb - ka)]) (rest := []) (n := 1) (d' := 2) (P := fun H => kgood D cA k_tt Ty lo H ∧ cP3 D cA r w ca cb cr w0 w1 H) hexec hb hml hown hts hK hc (qm_layCov hT hr hw hca h0 hn hn1 hn2 hwi) ⟨hG, hP3⟩ rfl qw_layCov qs_layCov ql_376 (by decide +kernel) rfl (by decide) (by decide) hlv.1 (by decide) d11 (fun v H' L hq hL => ?_)
    obtain ⟨mo, rfl, hmo1, hmo2, hG1, hfr1, hkk1, hF1⟩ := hq
    have hm1 : kmov D cA k_tt Ty lo hc_coverOf.2.2.2.2.1 s.heap H' ([] ++ L) := kmov_step hm0 hG1 hfr1 (kkp_sub (fun q hq => by
      obtain rfl := List.mem_singleton.mp hq
      exact List.mem_cons_self) hkk1) hL
    refine lv_istore_n hexec hb d14 rfl hlv (by decide) rfl (fun ls1 hl1 => ?_)
    refine lv_iconst (v := 1) hexec hb d15 rfl ?_
    refine lv_istore hexec hb d16 hl1 (by decide) rfl (fun ls2 hl2 => ?_)
    have loop : ∀ (f mn : Nat) (H : Heap) (locs : List Loc) (ls : Array Slot), mn + f = n → 1 ≤ mn → kmov D cA k_tt Ty lo hc_coverOf.2.2.2.2.1 s.heap H locs → cF D cA ca n n H → lv_has ls 5 [(0, .ref r), (3, .int mo), (4, .int (Int32.ofNat mn))] → kOwe p l e D cA k_tt Ty lo hc_coverOf [z0, z1, z2, z3, z4] [r, w] s m args below meth c H locs 18 ls [] := by
      intro f
      induction f with
      | zero =>
        intro mn H locs ls hf h1 hm hF hl
        obtain ⟨V36, W37, c1, -⟩ := id (hmP hm)
        refine lv_aload_n hexec hb d18 rfl (lv_at hl 0 rfl) ?_
        refine lv_iload hexec hb d19 (lv_at hl 2 rfl) ?_
        refine lv_iload_n hexec hb d21 rfl (lv_at hl 1 rfl) ?_
        refine h_callV (lo := lo) (As := [.int (Int32.ofNat mn), .int mo]) (rest := []) (n := 2) (d' := 1) (P := fun H => kgood D cA k_tt Ty lo H ∧ cP3 D cA r w ca cb cr w0 w1 H ∧ cF D cA ca n n H) hexec hb hml hown hts hK c1 (qm_canCov hT hr hw hca hcb hcr hn hn1 hn2 h1 (by omega) hmo1 hmo2) ⟨hm.1, hmP hm, hF⟩ rfl qw_canCov qs_canCov ql_379 (by decide +kernel) rfl (by decide) (by decide) hl.1 (by decide) d22 (fun v H' L hq hL => ?_)
        obtain ⟨b, rfl, hbt, hG2, hfr2, hkk2⟩ := hq
        have hm2 : kmov D cA k_tt Ty lo hc_coverOf.2.2.2.2.1 s.heap H' (locs ++ L) := kmov_step hm hG2 hfr2 (kkp_sub (fun q hq => List.mem_cons_of_mem _ hq) hkk2) hL
        have hbt := hbt (by omega)
        subst hbt
        refine lv_if_ne (tgt := 34) hexec hb d25 rfl (fun _ => ?_) (fun hh => absurd hh (by decide))
        exact kfrom (C := hc_coverOf) (cal := []) hcx hR hP hP2 dc_X10_coverOf (cur := (kdrop 34 cd_X10_coverOf).getD []) rfl cv_ok1 (x := [(mn : Int)]) (u := []) (lv := [(4, .int (Int32.ofNat mn))]) ⟨⟨rfl, fun k q z hq hz => by
          match k, hq, hz with
          | 0, hq, hz => cases hq; cases hz; exact i0
          | 1, hq, hz => cases hq; cases hz; exact i1
          | 2, hq, hz => cases hq; cases hz; exact i2
          | 3, hq, hz => cases hq; cases hz; exact i3
          | 4, hq, hz => cases hq; cases hz; exact hiv.2 4 _ z4 rfl rfl
          | 5, hq, hz => cases hq; cases hz; exact ⟨by show (1 : Int) ≤ _; omega, by show _ ≤ (20 : Int); omega⟩
          | k + 6, hq, hz => cases hq⟩, (fun g hg => by cases hg), hrt0, ⟨rfl, ⟨_, rfl, by rw [c_ofn (by omega)]; exact ksym_ev rfl⟩, trivial⟩, trivial, (fun g hg => by cases hg)⟩ (lv_sub hl [2] rfl) hm2
      | succ f ih =>
        intro mn H locs ls hf h1 hm hF hl
        obtain ⟨V36, W37, c1, -⟩ := id (hmP hm)
        refine lv_aload_n hexec hb d18 rfl (lv_at hl 0 rfl) ?_
        refine lv_iload hexec hb d19 (lv_at hl 2 rfl) ?_
        refine lv_iload_n hexec hb d21 rfl (lv_at hl 1 rfl) ?_
        refine h_callV (lo := lo) (As := [.int (Int32.ofNat mn), .int mo]) (rest := []) (n := 2) (d' := 1) (P := fun H => kgood D cA k_tt Ty lo H ∧ cP3 D cA r w ca cb cr w0 w1 H ∧ cF D cA ca n n H) hexec hb hml hown hts hK c1 (qm_canCov hT hr hw hca hcb hcr hn hn1 hn2 h1 (by omega) hmo1 hmo2) ⟨hm.1, hmP hm, hF⟩ rfl qw_canCov qs_canCov ql_379 (by decide +kernel) rfl (by decide) (by decide) hl.1 (by decide) d22 (fun v H' L hq hL => ?_)
        obtain ⟨b, rfl, hbt, hG2, hfr2, hkk2⟩ := hq
        have hm2 : kmov D cA k_tt Ty lo hc_coverOf.2.2.2.2.1 s.heap H' (locs ++ L) := kmov_step hm hG2 hfr2 (kkp_sub (fun q hq => List.mem_cons_of_mem _ hq) hkk2) hL
        cases b with
        | true =>
          refine lv_if_ne (tgt := 34) hexec hb d25 rfl (fun _ => ?_) (fun hh => absurd hh (by decide))
          exact kfrom (C := hc_coverOf) (cal := []) hcx hR hP hP2 dc_X10_coverOf (cur := (kdrop 34 cd_X10_coverOf).getD []) rfl cv_ok1 (x := [(mn : Int)]) (u := []) (lv := [(4, .int (Int32.ofNat mn))]) ⟨⟨rfl, fun k q z hq hz => by
          match k, hq, hz with
          | 0, hq, hz => cases hq; cases hz; exact i0
          | 1, hq, hz => cases hq; cases hz; exact i1
          | 2, hq, hz => cases hq; cases hz; exact i2
          | 3, hq, hz => cases hq; cases hz; exact i3
          | 4, hq, hz => cases hq; cases hz; exact hiv.2 4 _ z4 rfl rfl
          | 5, hq, hz => cases hq; cases hz; exact ⟨by show (1 : Int) ≤ _; omega, by show _ ≤ (20 : Int); omega⟩
          | k + 6, hq, hz => cases hq⟩, (fun g hg => by cases hg), hrt0, ⟨rfl, ⟨_, rfl, by rw [c_ofn (by omega)]; exact ksym_ev rfl⟩, trivial⟩, trivial, (fun g hg => by cases hg)⟩ (lv_sub hl [2] rfl) hm2
        | false =>
          refine lv_if_ne (tgt := 34) hexec hb d25 rfl (fun hh => absurd hh (by decide)) (fun _ => ?_)
          refine lv_iinc (k := 2) hexec hb d28 hl rfl rfl (by decide) rfl (fun ls1 hl1 => ?_)
          rw [c_inc] at hl1
          refine lv_goto (tgt := 18) hexec hb d31 rfl ?_
          exact ih (mn + 1) H' _ ls1 (by omega) (by omega) hm2 (cF_kkp hca hn2 (fun q hq => by
            rcases List.mem_cons.mp hq with rfl | hq
            · decide
            · obtain rfl := List.mem_singleton.mp hq
              decide) hm.1 hkk2 hF) (lv_sub hl1 [1, 2, 0] rfl)
    exact loop (n - 1) 1 H' _ ls2 (by omega) (by omega) hm1 hF1 (lv_sub hl2 [2, 1, 0] rfl)
  case _ =>
    exact kfrom (C := hc_coverOf) (cal := []) hcx hR hP hP2 dc_X10_coverOf (cur := (kdrop 5 cd_X10_coverOf).getD []) rfl cv_ok0 (x := []) (u := []) (lv := []) ⟨hiv, (fun g hg => by cases hg), hrt0, trivial, trivial, (fun g hg => by cases hg)⟩ ⟨hlv.1, hlv.2.1, fun q hq => by cases hq⟩ hm0
end HCVR
