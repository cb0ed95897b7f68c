/-! BY HAND: power of ten, divisor, trailing zeros -/
section HNUM
variable {l : Launch} {D : va_G} {cA aS : Nat → Nat} {Ty : Nat → Nat → Prop} {lo : Nat} {X : State → Heap → Prop}
def hpw : Nat → Int64
  | 0 => 1
  | k + 1 => hpw k * 10
theorem hpw_ne : ∀ k, k < 61 → hpw k ≠ 0 := by decide +kernel
theorem i64_sign {v : Int64} (h : v ≠ 0) : (k64.1 ≤ v.toInt ∧ v.toInt ≤ -1) ∨ (1 ≤ v.toInt ∧ v.toInt ≤ k64.2) := by
  have h1 := k64_in v
  have h2 : v.toInt ≠ 0 := fun e => h (Int64.toInt_inj.mp (by rw [e]; rfl))
  omega
def pw_S (q : Int × Int) : kS := ([(0, 60), q], [], [(3, .inr (.inl (ksym 1)))], [], [], [])
theorem pw_n : kexec (kEof k_tt k_aty k_ct ow_SilenceMatchModel 6 (some .long) hc_power) (cd_X10_power, [], [], []) none 10 false [(21, .lload_n 3, 1), (22, .lreturn, 1)] (pw_S (k64.1, -1)) = true := by decide +kernel
theorem pw_p : kexec (kEof k_tt k_aty k_ct ow_SilenceMatchModel 6 (some .long) hc_power) (cd_X10_power, [], [], []) none 10 false [(21, .lload_n 3, 1), (22, .lreturn, 1)] (pw_S (1, k64.2)) = true := by decide +kernel
set_option maxHeartbeats 4000000 in
theorem gh_power (hX : kXok X lo) (hT : kTyp k_tt Ty) (hS : ∀ (j : Nat) (q : String × Nat × String), k_sk[j]? = some q → Ty (aS j) (ksn j)) : kGo l k_cl k_aty k_ns k_sk k_mw D cA aS k_tt Ty lo X k_ct hc_power := fun h => by
  refine khand (y := ⟨"SilenceMatchModel", "power", "(JI)J"⟩) (by decide +kernel) rfl (fun p e s m args below meth c hcx zs as lv ls hs hlv hG => ?_)
  have hR := kRest_of wc_SilenceMatchModel wf_SilenceMatchModel wm_SilenceMatchModel k_clok k_tok k_nsn hX hT hS h
  have hP : hc_power.2.1.1.length = zs.length := hs.1.1.symm
  have hP2 : hc_power.2.1.2.1.length = as.length := hs.2.2.1.1.symm
  have hI := hs.1
  have hloc := hs.2.2.2.1
  obtain ⟨hexec, hb, hml, -, -, -, -, -, -⟩ := id hcx
  match zs, hP, hI with
  | [z0], hP, hI =>
  obtain ⟨b1, b2⟩ := hI.2 0 _ z0 rfl rfl
  have b1 : 0 ≤ z0 := b1
  have b2 : z0 ≤ 60 := b2
  match lv, hloc with
  | [(_, _), (_, _)], ⟨rfl, ⟨v, rfl, hv⟩, rfl, ⟨n, rfl, hn⟩, _⟩ =>
  have ev : v = 10 := Int64.toInt_inj.mp (Option.some.inj hv).symm
  subst ev
  have en : z0 = n.toInt := Option.some.inj ((ksym_ev (k := 0) rfl).symm.trans hn)
  have dc := dc_X10_power
  have d0 := dc _ (List.mem_of_getElem? (i := 0) rfl)
  have d1 := dc _ (List.mem_of_getElem? (i := 1) rfl)
  have d2 := dc _ (List.mem_of_getElem? (i := 2) rfl)
  have d3 := dc _ (List.mem_of_getElem? (i := 3) rfl)
  have d5 := dc _ (List.mem_of_getElem? (i := 4) rfl)
  have d7 := dc _ (List.mem_of_getElem? (i := 5) rfl)
  have d8 := dc _ (List.mem_of_getElem? (i := 6) rfl)
  have d11 := dc _ (List.mem_of_getElem? (i := 7) rfl)
  have d12 := dc _ (List.mem_of_getElem? (i := 8) rfl)
  have d13 := dc _ (List.mem_of_getElem? (i := 9) rfl)
  have d14 := dc _ (List.mem_of_getElem? (i := 10) rfl)
  have d15 := dc _ (List.mem_of_getElem? (i := 11) rfl)
  have d18 := dc _ (List.mem_of_getElem? (i := 12) rfl)
  dsimp only at d0 d1 d2 d3 d5 d7 d8 d11 d12 d13 d14 d15 d18
  have hm : kmov D cA k_tt Ty lo hc_power.2.2.2.2.1 s.heap s.heap [] := ⟨hG, kfr_rfl, kkp_rfl, fun q hq => by cases hq⟩
  have loop : ∀ (f k : Nat) (i : Int32) (ls : Array Slot), k + f = n.toInt.toNat → i.toInt = (k : Int) → lv_has ls 6 [(0, .long 10), (2, .int n), (3, .long (hpw k)), (5, .int i)] → kOwe p l e D cA k_tt Ty lo hc_power [z0] as s m args below meth c s.heap [] 5 ls [] := by
    intro f
    induction f with
    | zero =>
      intro k i ls hk hi hl
      refine lv_iload hexec hb d5 (lv_at hl 3 rfl) ?_
      refine lv_iload_n hexec hb d7 rfl (lv_at hl 1 rfl) ?_
      refine lv_icmp_ge (tgt := 21) hexec hb d8 rfl (fun _ => ?_) (fun hn2 => absurd (Int32.le_iff_toInt_le.mpr (by omega)) hn2)
      have hl2 : lv_has ls 6 [(3, .long (hpw k))] := lv_sub hl [2] rfl
      rcases i64_sign (hpw_ne k (by omega)) with hg | hg
      · exact kfrom (cal := []) hcx hR hP hP2 dc rfl pw_n (x := [(hpw k).toInt]) (u := []) (lv := [(3, .long (hpw k))]) (S := pw_S (k64.1, -1)) ⟨⟨rfl, fun j q z hq hz => by
          match j, hq, hz with
          | 0, hq, hz => cases hq; cases hz; exact ⟨b1, b2⟩
          | 1, hq, hz => cases hq; cases hz; exact hg
          | j + 2, hq, hz => cases hq⟩, (fun g hg => by cases hg), ⟨by rw [List.append_nil]; exact hP2.symm, fun j t a hj => by cases hj⟩, ⟨rfl, ⟨hpw k, rfl, ksym_ev rfl⟩, trivial⟩, trivial, (fun g hg => by cases hg)⟩ hl2 hm
      · exact kfrom (cal := []) hcx hR hP hP2 dc rfl pw_p (x := [(hpw k).toInt]) (u := []) (lv := [(3, .long (hpw k))]) (S := pw_S (1, k64.2)) ⟨⟨rfl, fun j q z hq hz => by
          match j, hq, hz with
          | 0, hq, hz => cases hq; cases hz; exact ⟨b1, b2⟩
          | 1, hq, hz => cases hq; cases hz; exact hg
          | j + 2, hq, hz => cases hq⟩, (fun g hg => by cases hg), ⟨by rw [List.append_nil]; exact hP2.symm, fun j t a hj => by cases hj⟩, ⟨rfl, ⟨hpw k, rfl, ksym_ev rfl⟩, trivial⟩, trivial, (fun g hg => by cases hg)⟩ hl2 hm
    | succ f ih =>
      intro k i ls hk hi hl
      refine lv_iload hexec hb d5 (lv_at hl 3 rfl) ?_
      refine lv_iload_n hexec hb d7 rfl (lv_at hl 1 rfl) ?_
      refine lv_icmp_ge (tgt := 21) hexec hb d8 rfl (fun hge => absurd (Int32.le_iff_toInt_le.mp hge) (by omega)) (fun _ => ?_)
      refine lv_lload_n hexec hb d11 rfl (lv_at hl 2 rfl) ?_
      refine lv_lload_n hexec hb d12 rfl (lv_at hl 0 rfl) ?_
      refine lv_lmul hexec hb d13 ?_
      refine lv_lstore_n hexec hb d14 rfl hl (by decide) rfl (fun ls1 hl1 => ?_)
      refine lv_iinc (k := 3) hexec hb d15 hl1 rfl rfl (by decide) rfl (fun ls2 hl2 => ?_)
      refine lv_goto (tgt := 5) hexec hb d18 rfl ?_
      exact ih (k + 1) (i + Int32.ofInt 1) ls2 (by omega) (by
        rw [Int32.toInt_add, hi, show (Int32.ofInt 1).toInt = 1 from rfl, k32_bm (by show (-2147483648 : Int) ≤ _; omega) (by show _ ≤ (2147483647 : Int); omega)]
        omega) (lv_sub hl2 [2, 3, 1, 0] rfl)
  refine lv_lconst (v := 1) hexec hb d0 rfl ?_
  refine lv_lstore_n hexec hb d1 rfl hlv (by decide) rfl (fun ls1 hl1 => ?_)
  refine lv_iconst (v := 0) hexec hb d2 rfl ?_
  refine lv_istore hexec hb d3 hl1 (by decide) rfl (fun ls2 hl2 => ?_)
  exact loop n.toInt.toNat 0 0 ls2 (by omega) rfl (lv_sub hl2 [2, 3, 1, 0] rfl)
/-! divisor -/
def dv_S (qb q : Int × Int) : kS := ([k64, qb, q], [], [(4, .inr (.inl (ksym 2)))], [], [], [])
def dv_cur : kCd := [(31, .lload 4, 2), (33, .lreturn, 1)]
theorem tmod_lt {a b : Int} (hb : b ≠ 0) : (a.tmod b).natAbs < b.natAbs := by
  rw [Int.natAbs_tmod]
  exact Nat.mod_lt _ (by omega)
theorem dv_pn : kexec (kEof k_tt k_aty k_ct ow_SilenceMatchModel 10 (some .long) hc_divp) (cd_X10_divisor, [], [], []) none 10 false dv_cur (dv_S (1, k64.2) (k64.1, -1)) = true := by decide +kernel
theorem dv_pp : kexec (kEof k_tt k_aty k_ct ow_SilenceMatchModel 10 (some .long) hc_divp) (cd_X10_divisor, [], [], []) none 10 false dv_cur (dv_S (1, k64.2) (1, k64.2)) = true := by decide +kernel
set_option maxHeartbeats 4000000 in
theorem gh_divp (hX : kXok X lo) (hT : kTyp k_tt Ty) (hS : ∀ (j : Nat) (q : String × Nat × String), k_sk[j]? = some q → Ty (aS j) (ksn j)) : kGo l k_cl k_aty k_ns k_sk k_mw D cA aS k_tt Ty lo X k_ct hc_divp := fun h => by
  refine khand (y := ⟨"SilenceMatchModel", "divisor", "(JJ)J"⟩) (by decide +kernel) rfl (fun p e s m args below meth c hcx zs as lv ls hs hlv hG => ?_)
  have hR := kRest_of wc_SilenceMatchModel wf_SilenceMatchModel wm_SilenceMatchModel k_clok k_tok k_nsn hX hT hS h
  have hP : hc_divp.2.1.1.length = zs.length := hs.1.1.symm
  have hP2 : hc_divp.2.1.2.1.length = as.length := hs.2.2.1.1.symm
  have hI := hs.1
  have hloc := hs.2.2.2.1
  obtain ⟨hexec, hb, hml, -, -, -, -, -, -⟩ := id hcx
  match zs, hP, hI with
  | [z0, z1], hP, hI =>
  have b0 := hI.2 0 _ z0 rfl rfl
  have b1 := hI.2 1 _ z1 rfl rfl
  match lv, hloc with
  | [(_, _), (_, _)], ⟨rfl, ⟨v0, rfl, hv0⟩, rfl, ⟨v1, rfl, hv1⟩, _⟩ =>
  have e1 : z1 = v1.toInt := Option.some.inj ((ksym_ev (k := 1) rfl).symm.trans hv1)
  have hne : v1 ≠ 0 := fun e => by
    subst e
    have e1 : z1 = 0 := e1
    subst e1
    exact absurd b1 (by decide)
  have dc := dc_X10_divisor
  have d0 := dc _ (List.mem_of_getElem? (i := 0) rfl)
  have d1 := dc _ (List.mem_of_getElem? (i := 1) rfl)
  have d3 := dc _ (List.mem_of_getElem? (i := 2) rfl)
  have d4 := dc _ (List.mem_of_getElem? (i := 3) rfl)
  have d6 := dc _ (List.mem_of_getElem? (i := 4) rfl)
  have d8 := dc _ (List.mem_of_getElem? (i := 5) rfl)
  have d9 := dc _ (List.mem_of_getElem? (i := 6) rfl)
  have d10 := dc _ (List.mem_of_getElem? (i := 7) rfl)
  have d13 := dc _ (List.mem_of_getElem? (i := 8) rfl)
  have d15 := dc _ (List.mem_of_getElem? (i := 9) rfl)
  have d17 := dc _ (List.mem_of_getElem? (i := 10) rfl)
  have d18 := dc _ (List.mem_of_getElem? (i := 11) rfl)
  have d20 := dc _ (List.mem_of_getElem? (i := 12) rfl)
  have d22 := dc _ (List.mem_of_getElem? (i := 13) rfl)
  have d24 := dc _ (List.mem_of_getElem? (i := 14) rfl)
  have d26 := dc _ (List.mem_of_getElem? (i := 15) rfl)
  have d28 := dc _ (List.mem_of_getElem? (i := 16) rfl)
  dsimp only at d0 d1 d3 d4 d6 d8 d9 d10 d13 d15 d17 d18 d20 d22 d24 d26 d28
  have hm : kmov D cA k_tt Ty lo hc_divp.2.2.2.2.1 s.heap s.heap [] := ⟨hG, kfr_rfl, kkp_rfl, fun q hq => by cases hq⟩
  have loop : ∀ (f : Nat) (a b : Int64) (ls : Array Slot), b.toInt.natAbs < f → (a ≠ 0 ∨ b ≠ 0) → lv_has ls 10 [(4, .long a), (6, .long b)] → kOwe p l e D cA k_tt Ty lo hc_divp [z0, z1] as s m args below meth c s.heap [] 6 ls [] := by
    intro f
    induction f with
    | zero => intro a b ls hf; omega
    | succ f ih =>
      intro a b ls hf hab hl
      refine lv_lload hexec hb d6 (lv_at hl 1 rfl) ?_
      refine lv_lconst (v := 0) hexec hb d8 rfl ?_
      refine W.lcmp hexec hb d9 ?_
      have hcmp := k_lcmp b 0
      refine lv_if_eq (tgt := 31) hexec hb d10 rfl (fun h0 => ?_) (fun h0 => ?_)
      · have hb0 : b = 0 := by
          rw [h0] at hcmp
          unfold kcmp at hcmp
          apply Int64.toInt_inj.mp
          rw [show (0 : Int32).toInt = 0 from rfl] at hcmp
          split at hcmp
          · omega
          · split at hcmp
            · rename_i e0
              exact e0
            · omega
        have ha : a ≠ 0 := hab.elim id (fun hb1 => absurd hb0 hb1)
        have hl2 : lv_has ls 10 [(4, .long a)] := lv_sub hl [0] rfl
        rcases i64_sign ha with hg | hg
        · exact kfrom (cal := []) hcx hR hP hP2 dc (cur := dv_cur) rfl dv_pn (x := [a.toInt]) (u := []) (lv := [(4, .long a)]) ⟨⟨rfl, fun j q z hq hz => by
            match j, hq, hz with
            | 0, hq, hz => cases hq; cases hz; exact b0
            | 1, hq, hz => cases hq; cases hz; exact b1
            | 2, hq, hz => cases hq; cases hz; exact hg
            | j + 3, hq, hz => cases hq⟩, (fun g hg => by cases hg), ⟨by rw [List.append_nil]; exact hP2.symm, fun j t a hj => by cases hj⟩, ⟨rfl, ⟨a, rfl, ksym_ev rfl⟩, trivial⟩, trivial, (fun g hg => by cases hg)⟩ hl2 hm
        · exact kfrom (cal := []) hcx hR hP hP2 dc (cur := dv_cur) rfl dv_pp (x := [a.toInt]) (u := []) (lv := [(4, .long a)]) ⟨⟨rfl, fun j q z hq hz => by
            match j, hq, hz with
            | 0, hq, hz => cases hq; cases hz; exact b0
            | 1, hq, hz => cases hq; cases hz; exact b1
            | 2, hq, hz => cases hq; cases hz; exact hg
            | j + 3, hq, hz => cases hq⟩, (fun g hg => by cases hg), ⟨by rw [List.append_nil]; exact hP2.symm, fun j t a hj => by cases hj⟩, ⟨rfl, ⟨a, rfl, ksym_ev rfl⟩, trivial⟩, trivial, (fun g hg => by cases hg)⟩ hl2 hm
      · have hb0 : b ≠ 0 := fun e0 => h0 (by
          subst e0
          apply Int32.toInt_inj.mp
          rw [hcmp]
          rfl)
        refine lv_lload hexec hb d13 (lv_at hl 0 rfl) ?_
        refine lv_lload hexec hb d15 (lv_at hl 1 rfl) ?_
        refine lv_lrem hexec hb d17 hb0 ?_
        have hr := k_lrem a b
        generalize a - a / b * b = r at hr ⊢
        refine lv_lstore hexec hb d18 hl (by decide) rfl (fun ls1 hl1 => ?_)
        refine lv_lload hexec hb d20 (lv_at hl1 2 rfl) ?_
        refine lv_lstore hexec hb d22 hl1 (by decide) rfl (fun ls2 hl2 => ?_)
        refine lv_lload hexec hb d24 (lv_at hl2 1 rfl) ?_
        refine lv_lstore hexec hb d26 hl2 (by decide) rfl (fun ls3 hl3 => ?_)
        refine lv_goto (tgt := 6) hexec hb d28 rfl ?_
        have hnz : b.toInt ≠ 0 := fun e0 => hb0 (Int64.toInt_inj.mp (by rw [e0]; rfl))
        have hlt := tmod_lt (a := a.toInt) hnz
        rw [← hr] at hlt
        exact ih b r ls3 (by omega) (Or.inl hb0) (lv_sub hl3 [1, 0] rfl)
  refine lv_lload_n hexec hb d0 rfl (lv_at hlv 0 rfl) ?_
  refine lv_lstore hexec hb d1 hlv (by decide) rfl (fun ls1 hl1 => ?_)
  refine lv_lload_n hexec hb d3 rfl (lv_at hl1 2 rfl) ?_
  refine lv_lstore hexec hb d4 hl1 (by decide) rfl (fun ls2 hl2 => ?_)
  exact loop (v1.toInt.natAbs + 1) v0 v1 ls2 (by omega) (Or.inr hne) (lv_sub hl2 [1, 0] rfl)
theorem dv_nn : kexec (kEof k_tt k_aty k_ct ow_SilenceMatchModel 10 (some .long) hc_divn) (cd_X10_divisor, [], [], []) none 10 false dv_cur (dv_S (k64.1, -1) (k64.1, -1)) = true := by decide +kernel
theorem dv_np : kexec (kEof k_tt k_aty k_ct ow_SilenceMatchModel 10 (some .long) hc_divn) (cd_X10_divisor, [], [], []) none 10 false dv_cur (dv_S (k64.1, -1) (1, k64.2)) = true := by decide +kernel
set_option maxHeartbeats 4000000 in
theorem gh_divn (hX : kXok X lo) (hT : kTyp k_tt Ty) (hS : ∀ (j : Nat) (q : String × Nat × String), k_sk[j]? = some q → Ty (aS j) (ksn j)) : kGo l k_cl k_aty k_ns k_sk k_mw D cA aS k_tt Ty lo X k_ct hc_divn := fun h => by
  refine khand (y := ⟨"SilenceMatchModel", "divisor", "(JJ)J"⟩) (by decide +kernel) rfl (fun p e s m args below meth c hcx zs as lv ls hs hlv hG => ?_)
  have hR := kRest_of wc_SilenceMatchModel wf_SilenceMatchModel wm_SilenceMatchModel k_clok k_tok k_nsn hX hT hS h
  have hP : hc_divn.2.1.1.length = zs.length := hs.1.1.symm
  have hP2 : hc_divn.2.1.2.1.length = as.length := hs.2.2.1.1.symm
  have hI := hs.1
  have hloc := hs.2.2.2.1
  obtain ⟨hexec, hb, hml, -, -, -, -, -, -⟩ := id hcx
  match zs, hP, hI with
  | [z0, z1], hP, hI =>
  have b0 := hI.2 0 _ z0 rfl rfl
  have b1 := hI.2 1 _ z1 rfl rfl
  match lv, hloc with
  | [(_, _), (_, _)], ⟨rfl, ⟨v0, rfl, hv0⟩, rfl, ⟨v1, rfl, hv1⟩, _⟩ =>
  have e1 : z1 = v1.toInt := Option.some.inj ((ksym_ev (k := 1) rfl).symm.trans hv1)
  have hne : v1 ≠ 0 := fun e => by
    subst e
    have e1 : z1 = 0 := e1
    subst e1
    exact absurd b1 (by decide)
  have dc := dc_X10_divisor
  have d0 := dc _ (List.mem_of_getElem? (i := 0) rfl)
  have d1 := dc _ (List.mem_of_getElem? (i := 1) rfl)
  have d3 := dc _ (List.mem_of_getElem? (i := 2) rfl)
  have d4 := dc _ (List.mem_of_getElem? (i := 3) rfl)
  have d6 := dc _ (List.mem_of_getElem? (i := 4) rfl)
  have d8 := dc _ (List.mem_of_getElem? (i := 5) rfl)
  have d9 := dc _ (List.mem_of_getElem? (i := 6) rfl)
  have d10 := dc _ (List.mem_of_getElem? (i := 7) rfl)
  have d13 := dc _ (List.mem_of_getElem? (i := 8) rfl)
  have d15 := dc _ (List.mem_of_getElem? (i := 9) rfl)
  have d17 := dc _ (List.mem_of_getElem? (i := 10) rfl)
  have d18 := dc _ (List.mem_of_getElem? (i := 11) rfl)
  have d20 := dc _ (List.mem_of_getElem? (i := 12) rfl)
  have d22 := dc _ (List.mem_of_getElem? (i := 13) rfl)
  have d24 := dc _ (List.mem_of_getElem? (i := 14) rfl)
  have d26 := dc _ (List.mem_of_getElem? (i := 15) rfl)
  have d28 := dc _ (List.mem_of_getElem? (i := 16) rfl)
  dsimp only at d0 d1 d3 d4 d6 d8 d9 d10 d13 d15 d17 d18 d20 d22 d24 d26 d28
  have hm : kmov D cA k_tt Ty lo hc_divn.2.2.2.2.1 s.heap s.heap [] := ⟨hG, kfr_rfl, kkp_rfl, fun q hq => by cases hq⟩
  have loop : ∀ (f : Nat) (a b : Int64) (ls : Array Slot), b.toInt.natAbs < f → (a ≠ 0 ∨ b ≠ 0) → lv_has ls 10 [(4, .long a), (6, .long b)] → kOwe p l e D cA k_tt Ty lo hc_divn [z0, z1] as s m args below meth c s.heap [] 6 ls [] := by
    intro f
    induction f with
    | zero => intro a b ls hf; omega
    | succ f ih =>
      intro a b ls hf hab hl
      refine lv_lload hexec hb d6 (lv_at hl 1 rfl) ?_
      refine lv_lconst (v := 0) hexec hb d8 rfl ?_
      refine W.lcmp hexec hb d9 ?_
      have hcmp := k_lcmp b 0
      refine lv_if_eq (tgt := 31) hexec hb d10 rfl (fun h0 => ?_) (fun h0 => ?_)
      · have hb0 : b = 0 := by
          rw [h0] at hcmp
          unfold kcmp at hcmp
          apply Int64.toInt_inj.mp
          rw [show (0 : Int32).toInt = 0 from rfl] at hcmp
          split at hcmp
          · omega
          · split at hcmp
            · rename_i e0
              exact e0
            · omega
        have ha : a ≠ 0 := hab.elim id (fun hb1 => absurd hb0 hb1)
        have hl2 : lv_has ls 10 [(4, .long a)] := lv_sub hl [0] rfl
        rcases i64_sign ha with hg | hg
        · exact kfrom (cal := []) hcx hR hP hP2 dc (cur := dv_cur) rfl dv_nn (x := [a.toInt]) (u := []) (lv := [(4, .long a)]) ⟨⟨rfl, fun j q z hq hz => by
            match j, hq, hz with
            | 0, hq, hz => cases hq; cases hz; exact b0
            | 1, hq, hz => cases hq; cases hz; exact b1
            | 2, hq, hz => cases hq; cases hz; exact hg
            | j + 3, hq, hz => cases hq⟩, (fun g hg => by cases hg), ⟨by rw [List.append_nil]; exact hP2.symm, fun j t a hj => by cases hj⟩, ⟨rfl, ⟨a, rfl, ksym_ev rfl⟩, trivial⟩, trivial, (fun g hg => by cases hg)⟩ hl2 hm
        · exact kfrom (cal := []) hcx hR hP hP2 dc (cur := dv_cur) rfl dv_np (x := [a.toInt]) (u := []) (lv := [(4, .long a)]) ⟨⟨rfl, fun j q z hq hz => by
            match j, hq, hz with
            | 0, hq, hz => cases hq; cases hz; exact b0
            | 1, hq, hz => cases hq; cases hz; exact b1
            | 2, hq, hz => cases hq; cases hz; exact hg
            | j + 3, hq, hz => cases hq⟩, (fun g hg => by cases hg), ⟨by rw [List.append_nil]; exact hP2.symm, fun j t a hj => by cases hj⟩, ⟨rfl, ⟨a, rfl, ksym_ev rfl⟩, trivial⟩, trivial, (fun g hg => by cases hg)⟩ hl2 hm
      · have hb0 : b ≠ 0 := fun e0 => h0 (by
          subst e0
          apply Int32.toInt_inj.mp
          rw [hcmp]
          rfl)
        refine lv_lload hexec hb d13 (lv_at hl 0 rfl) ?_
        refine lv_lload hexec hb d15 (lv_at hl 1 rfl) ?_
        refine lv_lrem hexec hb d17 hb0 ?_
        have hr := k_lrem a b
        generalize a - a / b * b = r at hr ⊢
        refine lv_lstore hexec hb d18 hl (by decide) rfl (fun ls1 hl1 => ?_)
        refine lv_lload hexec hb d20 (lv_at hl1 2 rfl) ?_
        refine lv_lstore hexec hb d22 hl1 (by decide) rfl (fun ls2 hl2 => ?_)
        refine lv_lload hexec hb d24 (lv_at hl2 1 rfl) ?_
        refine lv_lstore hexec hb d26 hl2 (by decide) rfl (fun ls3 hl3 => ?_)
        refine lv_goto (tgt := 6) hexec hb d28 rfl ?_
        have hnz : b.toInt ≠ 0 := fun e0 => hb0 (Int64.toInt_inj.mp (by rw [e0]; rfl))
        have hlt := tmod_lt (a := a.toInt) hnz
        rw [← hr] at hlt
        exact ih b r ls3 (by omega) (Or.inl hb0) (lv_sub hl3 [1, 0] rfl)
  refine lv_lload_n hexec hb d0 rfl (lv_at hlv 0 rfl) ?_
  refine lv_lstore hexec hb d1 hlv (by decide) rfl (fun ls1 hl1 => ?_)
  refine lv_lload_n hexec hb d3 rfl (lv_at hl1 2 rfl) ?_
  refine lv_lstore hexec hb d4 hl1 (by decide) rfl (fun ls2 hl2 => ?_)
  exact loop (v1.toInt.natAbs + 1) v0 v1 ls2 (by omega) (Or.inr hne) (lv_sub hl2 [1, 0] rfl)
/-! trailing zeros -/
theorem tz_split : ∀ (N : Nat), 0 < N → ∃ k m, N = 2 ^ k * (2 * m + 1) := by
  intro N
  induction N using Nat.strongRecOn with
  | _ N ih =>
    intro h
    by_cases he : N % 2 = 0
    · obtain ⟨k, m, hk⟩ := ih (N / 2) (by omega) (by omega)
      refine ⟨k + 1, m, ?_⟩
      have : N = 2 * (N / 2) := by omega
      rw [this, hk, Nat.pow_succ]
      rw [Nat.mul_comm (2 ^ k) 2, Nat.mul_assoc]
    · exact ⟨0, N / 2, by omega⟩
theorem tz_bits {k m i : Nat} : (!(2 ^ k * (2 * m + 1)).testBit i && (2 ^ k * (2 * m) + (2 ^ k - 1)).testBit i) = decide (i < k) := by
  have hp : 0 < 2 ^ k := Nat.two_pow_pos k
  rw [Nat.testBit_two_pow_mul, Nat.testBit_two_pow_mul_add _ (by omega), Nat.testBit_two_pow_sub_one]
  by_cases h : i < k
  · simp [h, Nat.not_le_of_lt h]
  · have h' : k ≤ i := by omega
    simp only [h, if_false, ge_iff_le, h', decide_true, Bool.true_and, decide_false]
    cases hj : i - k with
    | zero => simp
    | succ j =>
      rw [Nat.testBit_succ, Nat.testBit_succ, show (2 * m + 1) / 2 = m by omega, show 2 * m / 2 = m by omega]
      cases m.testBit j <;> rfl
theorem tz_val {x : Int32} (h1 : 1 ≤ x.toInt) (h2 : x.toInt ≤ 1048575) : ∃ k, k < 20 ∧ ((x ^^^ -1) &&& (x - 1)).toInt = 2 ^ k - 1 := by
  obtain ⟨hN, hN2⟩ := k_nn x (by omega)
  obtain ⟨k, m, hk⟩ := tz_split x.toBitVec.toNat (by omega)
  have hp : 0 < 2 ^ k := Nat.two_pow_pos k
  have hk20 : k < 20 := by
    rcases Nat.lt_or_ge k 20 with h | h
    · exact h
    · exfalso
      have h3 : 2 ^ 20 ≤ 2 ^ k := Nat.pow_le_pow_right (by decide) h
      have h4 : 2 ^ k ≤ 2 ^ k * (2 * m + 1) := Nat.le_mul_of_pos_right _ (by omega)
      have : (2 : Nat) ^ 20 = 1048576 := rfl
      omega
  have hlt : 2 ^ k ≤ 2 ^ 19 := Nat.pow_le_pow_right (by decide) (by omega)
  have e19 : (2 : Nat) ^ 19 = 524288 := rfl
  have key : ((x ^^^ -1) &&& (x - 1)).toBitVec = BitVec.ofNat 32 (2 ^ k - 1) := by
    apply BitVec.eq_of_getLsbD_eq
    intro i hi
    rw [Int32.toBitVec_and, Int32.toBitVec_xor, Int32.toBitVec_sub, BitVec.getLsbD_and, BitVec.getLsbD_xor]
    have a1 : (-1 : Int32).toBitVec.getLsbD i = true := by
      rw [show (-1 : Int32).toBitVec = BitVec.allOnes 32 from rfl, BitVec.getLsbD_allOnes]
      simpa using hi
    have a2 : (x.toBitVec - (1 : Int32).toBitVec).getLsbD i = (2 ^ k * (2 * m) + (2 ^ k - 1)).testBit i := by
      have e : (x.toBitVec - (1 : Int32).toBitVec).toNat = 2 ^ k * (2 * m) + (2 ^ k - 1) := by
        rw [BitVec.toNat_sub, show (1 : Int32).toBitVec.toNat = 1 from rfl]
        have e2 : 2 ^ k * (2 * m + 1) = 2 ^ k * (2 * m) + 2 ^ k := by rw [Nat.mul_add, Nat.mul_one]
        omega
      rw [← e]; rfl
    have a3 : x.toBitVec.getLsbD i = (2 ^ k * (2 * m + 1)).testBit i := by rw [← hk]; rfl
    rw [a1, a2, a3, Bool.xor_true, tz_bits, BitVec.getLsbD_ofNat, Nat.testBit_two_pow_sub_one]
    simp [hi]
  have hnat : ((x ^^^ -1) &&& (x - 1)).toBitVec.toNat = 2 ^ k - 1 := by
    rw [key, BitVec.toNat_ofNat]
    exact Nat.mod_eq_of_lt (by omega)
  refine ⟨k, hk20, ?_⟩
  rw [k_ofn _ (by rw [hnat]; omega), hnat]
  have : ((2 ^ k - 1 : Nat) : Int) = (2 ^ k : Nat) - 1 := by omega
  rw [this, Int.natCast_pow]
  rfl
def nz_S (k : Nat) : kS := ([(1, 1048575)], [], [(0, .inl (kcst (2 ^ k - 1)))], [], [], [])
def nz_cur : kCd := cd_J6_numberOfTrailingZeros_0f7a4.drop 8
theorem nz_ok : ∀ k, k < 20 → kexec (kEof k_tt k_aty k_ct ow_java_lang_Integer 2 (some .int) hc_ntz) (cd_J6_numberOfTrailingZeros_0f7a4, [], [], []) none 100 false nz_cur (nz_S k) = true := by decide +kernel
set_option maxHeartbeats 4000000 in
theorem gh_ntz (hX : kXok X lo) (hT : kTyp k_tt Ty) (hS : ∀ (j : Nat) (q : String × Nat × String), k_sk[j]? = some q → Ty (aS j) (ksn j)) : kGo l k_cl k_aty k_ns k_sk k_mw D cA aS k_tt Ty lo X k_ct hc_ntz := fun h => by
  refine khand (y := ⟨"java/lang/Integer", "numberOfTrailingZeros", "(I)I"⟩) (by decide +kernel) rfl (fun p e s m args below meth c hcx zs as lv ls hs hlv hG => ?_)
  have hR := kRest_of wc_java_lang_Integer wf_java_lang_Integer wm_java_lang_Integer k_clok k_tok k_nsn hX hT hS h
  have hP : hc_ntz.2.1.1.length = zs.length := hs.1.1.symm
  have hP2 : hc_ntz.2.1.2.1.length = as.length := hs.2.2.1.1.symm
  have hI := hs.1
  have hloc := hs.2.2.2.1
  obtain ⟨hexec, hb, hml, -, -, -, -, -, -⟩ := id hcx
  match zs, hP, hI with
  | [z0], hP, hI =>
  have b0 := hI.2 0 _ z0 rfl rfl
  match lv, hloc with
  | [(_, _)], ⟨rfl, ⟨x, rfl, hx⟩, _⟩ =>
  have ex : z0 = x.toInt := Option.some.inj ((ksym_ev (k := 0) rfl).symm.trans hx)
  have b1 : 1 ≤ z0 := b0.1
  have b2 : z0 ≤ 1048575 := b0.2
  have dc := dc_J6_numberOfTrailingZeros_0f7a4
  have d0 := dc _ (List.mem_of_getElem? (i := 0) rfl)
  have d1 := dc _ (List.mem_of_getElem? (i := 1) rfl)
  have d2 := dc _ (List.mem_of_getElem? (i := 2) rfl)
  have d3 := dc _ (List.mem_of_getElem? (i := 3) rfl)
  have d4 := dc _ (List.mem_of_getElem? (i := 4) rfl)
  have d5 := dc _ (List.mem_of_getElem? (i := 5) rfl)
  have d6 := dc _ (List.mem_of_getElem? (i := 6) rfl)
  have d7 := dc _ (List.mem_of_getElem? (i := 7) rfl)
  dsimp only at d0 d1 d2 d3 d4 d5 d6 d7
  obtain ⟨k, hk, hval⟩ := tz_val (x := x) (by omega) (by omega)
  refine lv_iload_n hexec hb d0 rfl (lv_at hlv 0 rfl) ?_
  refine lv_iconst (v := -1) hexec hb d1 rfl ?_
  refine lv_ixor hexec hb d2 ?_
  refine lv_iload_n hexec hb d3 rfl (lv_at hlv 0 rfl) ?_
  refine lv_iconst (v := 1) hexec hb d4 rfl ?_
  refine lv_isub hexec hb d5 ?_
  refine lv_iand hexec hb d6 ?_
  refine lv_istore_n hexec hb d7 rfl hlv (by decide) rfl (fun ls1 hl1 => ?_)
  exact kfrom (cal := []) hcx hR hP hP2 dc (cur := nz_cur) rfl (nz_ok k hk) (x := []) (u := []) (lv := [(0, .int ((x ^^^ -1) &&& (x - 1)))]) ⟨⟨rfl, fun j q z hq hz => by
    match j, hq, hz with
    | 0, hq, hz => cases hq; cases hz; exact b0
    | j + 1, hq, hz => cases hq⟩, (fun g hg => by cases hg), ⟨by rw [List.append_nil]; exact hP2.symm, fun j t a hj => by cases hj⟩, ⟨rfl, ⟨_, rfl, by rw [hval]; exact kcst_ev⟩, trivial⟩, trivial, (fun g hg => by cases hg)⟩ hl1 ⟨hG, kfr_rfl, kkp_rfl, fun q hq => by cases hq⟩
end HNUM
