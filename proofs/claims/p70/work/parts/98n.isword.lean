/-! BY HAND: is this the word? -/
section HWRD
variable {l : Launch} {D : va_G} {cA aS adV : Nat → Nat} {Ty : Nat → Nat → Prop} {lo : Nat} {X : State → Heap → Prop}
def kt_3 : kT := (k_tt[3]?).getD (0, 0, [], [])
theorem kt3 : k_tt[3]? = some kt_3 := rfl
def iw_S : kS := ([k32], [3, 1000, 1], [], [.inl (ksym 0), .inr (.inr (.inl 2))], [], [])
def iw_L : List kS := (kinv k_tt k_aty k_ct ow_SilenceMatch_Reader [(46, [20])] [] 8 46 (.invokevirtual 182) iw_S).getD []
theorem h_opt {α : Type} {o : Option α} (d : α) (h : o.isSome = true) : o = some (o.getD d) := by cases o with
  | none => cases h
  | some x => rfl
theorem iw_inv : kinv k_tt k_aty k_ct ow_SilenceMatch_Reader [(46, [20])] [] 8 46 (.invokevirtual 182) iw_S = some iw_L := h_opt [] (by decide +kernel)
theorem iw_all : iw_L.all (fun S => match S.2.2.2.1 with
  | [.inl _] => true
  | _ => false) = true := by decide +kernel
def iw_0 : kS := ([], [3, 1000], [], [], [], [])
theorem iw_24 : kexec (kEof k_tt k_aty k_ct ow_SilenceMatch_Reader 3 (some .boolean) hc_isWord) (cd_X6_isWord, [], [], []) none 10 false ((kdrop 24 cd_X6_isWord).getD []) iw_0 = true := by decide +kernel
theorem iw_57 : kexec (kEof k_tt k_aty k_ct ow_SilenceMatch_Reader 3 (some .boolean) hc_isWord) (cd_X6_isWord, [], [], []) none 10 false ((kdrop 57 cd_X6_isWord).getD []) iw_0 = true := by decide +kernel
theorem iw_65 : kexec (kEof k_tt k_aty k_ct ow_SilenceMatch_Reader 3 (some .boolean) hc_isWord) (cd_X6_isWord, [], [], []) none 10 false ((kdrop 65 cd_X6_isWord).getD []) iw_0 = true := by decide +kernel
set_option maxHeartbeats 4000000 in
theorem gh_isWord (hX : kXok X lo) (hT : kTyp k_tt Ty) (hS : ∀ (j : Nat) (q : String × Nat × String), k_sk[j]? = some q → Ty (aS j) (ksn j)) (hXe : X = sX aS adV lo) (hTS : ∀ a t, 1000 ≤ t → Ty a t → ∃ j, j < 34 ∧ a = aS j ∧ t = ksn j) : kGo l k_cl k_aty k_ns k_sk k_mw D cA aS k_tt Ty lo X k_ct hc_isWord := fun h => by
  subst hXe
  have hR := kRest_of (l := l) (D := D) (cA := cA) (aS := aS) wc_SilenceMatch_Reader wf_SilenceMatch_Reader wm_SilenceMatch_Reader k_clok k_tok k_nsn hX hT hS h
  refine khand (y := ⟨"SilenceMatch$Reader", "isWord", "(Ljava/lang/String;)Z"⟩) (by decide +kernel) rfl (fun p e s m args below meth c hcx zs as lv ls hs hlv hG => ?_)
  have hP : hc_isWord.2.1.1.length = zs.length := hs.1.1.symm
  have hP2 : hc_isWord.2.1.2.1.length = as.length := hs.2.2.1.1.symm
  have hrt0 := hs.2.2.1
  have hloc := hs.2.2.2.1
  match zs, hP with
  | [], hP =>
  match as, hP2, hrt0 with
  | [r, q], hP2, hrt0 =>
  have hr : Ty r 3 := hrt0.2 0 _ r rfl rfl
  have hq : Ty q 1000 := hrt0.2 1 _ q rfl rfl
  obtain ⟨j, hj, rfl, -⟩ := hTS q 1000 (by decide) hq
  match lv, hloc with
  | [(_, _), (_, _)], ⟨rfl, ⟨r', rfl, er⟩, rfl, ⟨q', rfl, eq⟩, _⟩ =>
  have er : r = r' := Option.some.inj er
  have eq : aS j = q' := Option.some.inj eq
  subst er; subst eq
  obtain ⟨hlo, V, hc, hv⟩ := hG.1 r 3 _ hr kt3
  obtain ⟨k3, e3, -⟩ := hv.1 (3, 1, 1, .inl [(0, 4)]) (List.mem_of_getElem? (i := 3) rfl) 0 (by decide)
  obtain ⟨k4, e4, x4, hx4, b4, c4⟩ := hv.1 (4, 1, 1, .inl [(0, 900)]) (List.mem_of_getElem? (i := 4) rfl) 0 (by decide)
  obtain ⟨k5, e5, x5, hx5, b5, c5⟩ := hv.1 (5, 1, 1, .inl [(0, 900)]) (List.mem_of_getElem? (i := 5) rfl) 0 (by decide)
  obtain ⟨tp, e2, t2⟩ := hv.1 (2, 1, 1, .inr (.inr 1)) (List.mem_of_getElem? (i := 2) rfl) 0 (by decide)
  have e3 : V 3 = .int k3 := e3
  have e4 : V 4 = .int k4 := e4
  have e5 : V 5 = .int k5 := e5
  have e2 : V 2 = .ref tp := e2
  obtain ⟨hexec, hb, hml, hown, hts, hrt, hlk, hK, hXs⟩ := id hcx
  obtain ⟨r1, r2, r3, r4, r5, r6, r7, r8, r9, r10, r11⟩ := id hR
  have len8 := s_lt j hj
  have hlen : (Int32.ofNat (s_len.getD j 0)).toInt = (s_len.getD j 0 : Int) := Int32.toInt_ofNat_of_lt (by omega)
  have dc := dc_X6_isWord
  have d0 := dc _ (List.mem_of_getElem? (i := 0) rfl)
  have d1 := dc _ (List.mem_of_getElem? (i := 1) rfl)
  have d4 := dc _ (List.mem_of_getElem? (i := 2) rfl)
  have d5 := dc _ (List.mem_of_getElem? (i := 3) rfl)
  have d8 := dc _ (List.mem_of_getElem? (i := 4) rfl)
  have d9 := dc _ (List.mem_of_getElem? (i := 5) rfl)
  have d12 := dc _ (List.mem_of_getElem? (i := 6) rfl)
  have d13 := dc _ (List.mem_of_getElem? (i := 7) rfl)
  have d16 := dc _ (List.mem_of_getElem? (i := 8) rfl)
  have d17 := dc _ (List.mem_of_getElem? (i := 9) rfl)
  have d18 := dc _ (List.mem_of_getElem? (i := 10) rfl)
  have d21 := dc _ (List.mem_of_getElem? (i := 11) rfl)
  have d24 := dc _ (List.mem_of_getElem? (i := 12) rfl)
  have d25 := dc _ (List.mem_of_getElem? (i := 13) rfl)
  have d26 := dc _ (List.mem_of_getElem? (i := 14) rfl)
  have d27 := dc _ (List.mem_of_getElem? (i := 15) rfl)
  have d28 := dc _ (List.mem_of_getElem? (i := 16) rfl)
  have d29 := dc _ (List.mem_of_getElem? (i := 17) rfl)
  have d30 := dc _ (List.mem_of_getElem? (i := 18) rfl)
  have d33 := dc _ (List.mem_of_getElem? (i := 19) rfl)
  have d36 := dc _ (List.mem_of_getElem? (i := 20) rfl)
  have d37 := dc _ (List.mem_of_getElem? (i := 21) rfl)
  have d40 := dc _ (List.mem_of_getElem? (i := 22) rfl)
  have d41 := dc _ (List.mem_of_getElem? (i := 23) rfl)
  have d44 := dc _ (List.mem_of_getElem? (i := 24) rfl)
  have d45 := dc _ (List.mem_of_getElem? (i := 25) rfl)
  have d46 := dc _ (List.mem_of_getElem? (i := 26) rfl)
  have d49 := dc _ (List.mem_of_getElem? (i := 27) rfl)
  have d50 := dc _ (List.mem_of_getElem? (i := 28) rfl)
  have d51 := dc _ (List.mem_of_getElem? (i := 29) rfl)
  have d54 := dc _ (List.mem_of_getElem? (i := 30) rfl)
  have d57 := dc _ (List.mem_of_getElem? (i := 31) rfl)
  have d58 := dc _ (List.mem_of_getElem? (i := 32) rfl)
  have d59 := dc _ (List.mem_of_getElem? (i := 33) rfl)
  have d62 := dc _ (List.mem_of_getElem? (i := 34) rfl)
  have d65 := dc _ (List.mem_of_getElem? (i := 35) rfl)
  have d66 := dc _ (List.mem_of_getElem? (i := 36) rfl)
  dsimp only at d0 d1 d4 d5 d8 d9 d12 d13 d16 d17 d18 d21 d24 d25 d26 d27 d28 d29 d30 d33 d36 d37 d40 d41 d44 d45 d46 d49 d50 d51 d54 d57 d58 d59 d62 d65 d66
  have st0 : ∀ H : Heap, kst D cA k_tt Ty ([] ++ []) ([r, aS j] ++ []) iw_0 H [] [] := fun H => ⟨⟨rfl, fun k q z hq => by cases hq⟩, (fun g hg => by cases hg), hrt0, trivial, trivial, (fun g hg => by cases hg)⟩
  have f24 : ∀ (H : Heap) (locs : List Loc) (ls : Array Slot), ls.size = 3 → lv_wf ls → kmov D cA k_tt Ty lo hc_isWord.2.2.2.2.1 s.heap H locs → kOwe p l e D cA k_tt Ty lo hc_isWord [] [r, aS j] s m args below meth c H locs 24 ls [] := fun H locs ls hz hw hm => kfrom (cal := []) hcx hR hP hP2 dc (cur := (kdrop 24 cd_X6_isWord).getD []) rfl iw_24 (x := []) (u := []) (st0 H) ⟨hz, hw, fun q hq => by cases hq⟩ hm
  have f57 : ∀ (H : Heap) (locs : List Loc) (ls : Array Slot), ls.size = 3 → lv_wf ls → kmov D cA k_tt Ty lo hc_isWord.2.2.2.2.1 s.heap H locs → kOwe p l e D cA k_tt Ty lo hc_isWord [] [r, aS j] s m args below meth c H locs 57 ls [] := fun H locs ls hz hw hm => kfrom (cal := []) hcx hR hP hP2 dc (cur := (kdrop 57 cd_X6_isWord).getD []) rfl iw_57 (x := []) (u := []) (st0 H) ⟨hz, hw, fun q hq => by cases hq⟩ hm
  have f65 : ∀ (H : Heap) (locs : List Loc) (ls : Array Slot), ls.size = 3 → lv_wf ls → kmov D cA k_tt Ty lo hc_isWord.2.2.2.2.1 s.heap H locs → kOwe p l e D cA k_tt Ty lo hc_isWord [] [r, aS j] s m args below meth c H locs 65 ls [] := fun H locs ls hz hw hm => kfrom (cal := []) hcx hR hP hP2 dc (cur := (kdrop 65 cd_X6_isWord).getD []) rfl iw_65 (x := []) (u := []) (st0 H) ⟨hz, hw, fun q hq => by cases hq⟩ hm
  have at_ : ∀ (H : Heap) (locs : List Loc) (i : Nat), i < 6 → kmov D cA k_tt Ty lo hc_isWord.2.2.2.2.1 s.heap H locs → ∃ W, kcell D cA kt_3 r H W ∧ W i = V i := fun H locs i hi hm => hm.2.2.1 r 3 kt_3 V i hr kt3 hc (show i < 6 from hi) (fun w hw => by cases hw)
  have loop : ∀ (f k : Nat) (i : Int32) (H : Heap) (locs : List Loc) (ls : Array Slot), k + f = s_len.getD j 0 → i.toInt = (k : Int) → kmov D cA k_tt Ty lo hc_isWord.2.2.2.2.1 s.heap H locs → lv_has ls 3 [(0, .ref r), (1, .ref (aS j)), (2, .int i)] → kOwe p l e D cA k_tt Ty lo hc_isWord [] [r, aS j] s m args below meth c H locs 28 ls [] := by
    intro f
    induction f with
    | zero =>
      intro k i H locs ls hk hi hm hl
      refine lv_iload_n hexec hb d28 rfl (lv_at hl 2 rfl) ?_
      refine lv_aload_n hexec hb d29 rfl (lv_at hl 1 rfl) ?_
      refine s_callV (As := []) (n := 0) (d' := 1) hj hexec hb hml hown hts hXs hm.2.1.2 (sm_length hj) sw_length ss_length sl_SilenceMatch_Reader_177 (by decide) (by decide +kernel) rfl (by decide) (by decide) hl.1 (by show 1 + 0 ≤ 8; decide) d30 ?_
      exact lv_icmp_ge (tgt := 65) hexec hb d33 rfl (fun _ => f65 H locs ls hl.1 hl.2.1 hm) (fun hn => absurd (Int32.le_iff_toInt_le.mpr (by rw [hlen, hi]; omega)) hn)
    | succ f ih =>
      intro k i H locs ls hk hi hm hl
      refine lv_iload_n hexec hb d28 rfl (lv_at hl 2 rfl) ?_
      refine lv_aload_n hexec hb d29 rfl (lv_at hl 1 rfl) ?_
      refine s_callV (As := []) (n := 0) (d' := 1) hj hexec hb hml hown hts hXs hm.2.1.2 (sm_length hj) sw_length ss_length sl_SilenceMatch_Reader_177 (by decide) (by decide +kernel) rfl (by decide) (by decide) hl.1 (by show 1 + 0 ≤ 8; decide) d30 ?_
      refine lv_icmp_ge (tgt := 65) hexec hb d33 rfl (fun hge => absurd (Int32.le_iff_toInt_le.mp hge) (by rw [hlen, hi]; omega)) (fun _ => ?_)
      obtain ⟨W2, w2, x2⟩ := at_ H locs 2 (by decide) hm
      obtain ⟨W4, w4, x4'⟩ := at_ H locs 4 (by decide) hm
      refine lv_aload_n hexec hb d36 rfl (lv_at hl 0 rfl) ?_
      refine h_get (T := kt_3) (idx := 27) (j := 2) (tc := 3) hexec hb hts k_clok hown hK wf_SilenceMatch_Reader (by decide) rfl (by decide) w2 d37 ?_
      rw [x2, e2]
      refine lv_aload_n hexec hb d40 rfl (lv_at hl 0 rfl) ?_
      refine h_get (T := kt_3) (idx := 21) (j := 4) (tc := 0) hexec hb hts k_clok hown hK wf_SilenceMatch_Reader (by decide) rfl (by decide) w4 d41 ?_
      rw [x4', e4]
      refine lv_iload_n hexec hb d44 rfl (lv_at hl 2 rfl) ?_
      refine lv_iadd hexec hb d45 ?_
      have s46 : kst D cA k_tt Ty [(k4 + i).toInt] [r, aS j, tp] iw_S H [] [.int (k4 + i), .ref tp] := ⟨⟨rfl, fun k q z hq hz => by
          match k, hq, hz with
          | 0, hq, hz => cases hq; cases hz; exact k32_in _
          | k + 1, hq, hz => cases hq⟩, (fun g hg => by cases hg), ⟨rfl, fun k t a hk ha => by
          match k, hk, ha with
          | 0, hk, ha => cases hk; cases ha; exact hr
          | 1, hk, ha => cases hk; cases ha; exact hq
          | 2, hk, ha => cases hk; cases ha; exact t2
          | k + 3, hk, ha => cases hk⟩, trivial, ⟨⟨_, rfl, ksym_ev rfl⟩, ⟨tp, rfl, rfl⟩, trivial⟩, (fun g hg => by cases hg)⟩
      refine kinv_ok (wr := []) (lv := []) hexec hb hml rfl ⟨rfl, rfl⟩ hown hts r1 r4 hK r7 r8 hXs r9 hm.1 hm.2.1 r11 s46 ⟨hl.1, hl.2.1, fun q hq => by cases hq⟩ d46 iw_inv (fun S' hS' x u st' H' L' g1 g2 g3 g4 g5 => ?_)
      have hall := List.all_eq_true.mp iw_all S' hS'
      have hstk := g5.2.2.2.2.1
      split at hall
      case h_2 => cases hall
      rename_i fv hfv
      rw [hfv] at hstk
      match st', hstk with
      | [], hstk => exact hstk.elim
      | _ :: _ :: _, hstk => exact hstk.2.elim
      | [_], ⟨⟨nv, rfl, _⟩, _⟩ =>
      have hm' : kmov D cA k_tt Ty lo hc_isWord.2.2.2.2.1 s.heap H' (locs ++ L') := kmov_step hm g1 g2 g3 g4
      refine lv_aload_n hexec hb d49 rfl (lv_at hl 1 rfl) ?_
      refine lv_iload_n hexec hb d50 rfl (lv_at hl 2 rfl) ?_
      refine s_callV (As := [.int i]) (n := 1) (d' := 3) hj hexec hb hml hown hts hXs hm'.2.1.2 (sm_charAt hj (by omega) (by omega)) sw_charAt ss_charAt sl_SilenceMatch_Reader_188 (by decide) (by decide +kernel) rfl (by decide) (by decide) hl.1 (by show 1 + 0 ≤ 8; decide) d51 ?_
      refine lv_icmp_eq (tgt := 59) hexec hb d54 rfl (fun _ => ?_) (fun _ => f57 H' _ ls hl.1 hl.2.1 hm')
      refine lv_iinc (k := 2) hexec hb d59 hl rfl rfl (by decide) rfl (fun ls1 hl1 => ?_)
      refine lv_goto (tgt := 28) hexec hb d62 rfl ?_
      exact ih (k + 1) (i + Int32.ofInt 1) H' _ ls1 (by omega) (by
        rw [Int32.toInt_add, hi, show (Int32.ofInt 1).toInt = 1 from rfl, k32_bm (by show (-2147483648 : Int) ≤ _; omega) (by show _ ≤ (2147483647 : Int); omega)]
        omega) hm' (lv_sub hl1 [1, 2, 0] rfl)
  have hm0 : kmov D cA k_tt Ty lo hc_isWord.2.2.2.2.1 s.heap s.heap [] := ⟨hG, kfr_rfl, kkp_rfl, fun q hq => by cases hq⟩
  refine lv_aload_n hexec hb d0 rfl (lv_at hlv 0 rfl) ?_
  refine h_get (T := kt_3) (idx := 18) (j := 3) (tc := 0) hexec hb hts k_clok hown hK wf_SilenceMatch_Reader (by decide) rfl (by decide) hc d1 ?_
  rw [e3]
  refine lv_iconst (v := 1) hexec hb d4 rfl ?_
  refine lv_icmp_ne (tgt := 24) hexec hb d5 rfl (fun _ => f24 s.heap [] ls hlv.1 hlv.2.1 hm0) (fun _ => ?_)
  refine lv_aload_n hexec hb d8 rfl (lv_at hlv 0 rfl) ?_
  refine h_get (T := kt_3) (idx := 24) (j := 5) (tc := 0) hexec hb hts k_clok hown hK wf_SilenceMatch_Reader (by decide) rfl (by decide) hc d9 ?_
  rw [e5]
  refine lv_aload_n hexec hb d12 rfl (lv_at hlv 0 rfl) ?_
  refine h_get (T := kt_3) (idx := 21) (j := 4) (tc := 0) hexec hb hts k_clok hown hK wf_SilenceMatch_Reader (by decide) rfl (by decide) hc d13 ?_
  rw [e4]
  refine lv_isub hexec hb d16 ?_
  refine lv_aload_n hexec hb d17 rfl (lv_at hlv 1 rfl) ?_
  refine s_callV (As := []) (n := 0) (d' := 1) hj hexec hb hml hown hts hXs hm0.2.1.2 (sm_length hj) sw_length ss_length sl_SilenceMatch_Reader_177 (by decide) (by decide +kernel) rfl (by decide) (by decide) hlv.1 (by show 1 + 0 ≤ 8; decide) d18 ?_
  refine lv_icmp_eq (tgt := 26) hexec hb d21 rfl (fun _ => ?_) (fun _ => f24 s.heap [] ls hlv.1 hlv.2.1 hm0)
  refine lv_iconst (v := 0) hexec hb d26 rfl ?_
  refine lv_istore_n hexec hb d27 rfl hlv (by decide) rfl (fun ls1 hl1 => ?_)
  exact loop (s_len.getD j 0) 0 0 s.heap [] ls1 (by omega) rfl hm0 (lv_sub hl1 [1, 2, 0] rfl)
end HWRD
