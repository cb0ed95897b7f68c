/-! BY HAND: which cells lie within reach of which -/
section HLAY
variable {l : Launch} {D : va_G} {cA aS adV : Nat → Nat} {Ty : Nat → Nat → Prop} {lo : Nat}
def kt_47 : kT := (100, 20, [(0, 1, 20, .inl [(0, 1048575)])], [])
def kt_48 : kT := (100, 20, [(0, 1, 20, kt_any)], [])
def kt_49 : kT := (100, 21, [(0, 1, 21, kt_any)], [])
theorem kt47 : k_tt[47]? = some kt_47 := rfl
theorem kt48 : k_tt[48]? = some kt_48 := rfl
theorem kt49 : k_tt[49]? = some kt_49 := rfl
theorem bt_rng {x : Int32} (h : ∀ i, i < 32 → bt x i = true → i < 20) : 0 ≤ x.toInt ∧ x.toInt ≤ 1048575 := by
  have h1 : x.toBitVec.toNat < 2 ^ 20 := by
    apply Nat.lt_pow_two_of_testBit
    intro i hi
    by_cases h32 : i < 32
    · cases hb : x.toBitVec.toNat.testBit i with
      | false => rfl
      | true => exact absurd (h i h32 hb) (by omega)
    · exact Nat.testBit_lt_two_pow (Nat.lt_of_lt_of_le x.toBitVec.isLt (Nat.pow_le_pow_right (by decide) (by omega)))
  have h2 := k_ofn x (by omega)
  omega
/-- a number stored into a row of one kind -/
theorem c_put {wr : kW} {H0 H H1 : Heap} {locs : List Loc} {t a z i k : Nat} {T : kT} {P : kP} {V : Nat → Value} {v : Value} (hT : kTyp k_tt Ty) (hm : kmov D cA k_tt Ty lo wr H0 H locs) (ha : Ty a t) (hTt : k_tt[t]? = some T) (hw : (t, none) ∈ wr) (hyf : kyf t = true) (hlt : t < 1000) (hv : kvals Ty T V) (hc1 : kcell D cA T a H1 (updV V z v)) (hsz : H1.size = H.size) (ho : ∀ q, q ≠ a → H1[q]? = H[q]?) (hr : T.2.2.1 = [(0, 1, k, P)]) (hse : T.2.2.2 = []) (hp : kpok Ty P v) : kmov D cA k_tt Ty lo wr H0 H1 (locs ++ [⟨a, i⟩]) := by
  obtain ⟨la, -⟩ := hm.1.1 a t T ha hTt
  have hG1 : kgood D cA k_tt Ty lo H1 := kgood_of hT hm.1 [(a, t)] (List.forall_mem_cons.mpr ⟨⟨hlt, ha, fun T' hT' => by cases Option.some.inj (hTt.symm.trans hT'); exact ⟨_, hc1, kvals_set hr hse hv hp⟩⟩, fun _ h => absurd h List.not_mem_nil⟩) (fun q hq => ho q (hq _ List.mem_cons_self)) (kY_kept hT hm.1.2 ha hTt hyf ho)
  have hk1 : kkp D cA k_tt Ty wr H H1 := kkp_of hT [(a, t)] (List.forall_mem_cons.mpr ⟨⟨hlt, ha, Or.inl hw⟩, fun _ h => absurd h List.not_mem_nil⟩) (fun q hq => ho q (hq _ List.mem_cons_self))
  exact kmov_step hm hG1 ⟨hsz, fun q hq => ho q (fun e => by omega)⟩ hk1 (fun q hq => by
    obtain rfl := List.mem_singleton.mp hq
    exact la)
/-- what the methods find: the object, the world, its width and height, three rows -/
def cP3 (D : va_G) (cA : Nat → Nat) (r w ca cb cr : Nat) (w0 w1 : Int32) (H : Heap) : Prop := ∃ V W, kcell D cA kt_36 r H V ∧ V 1 = .ref w ∧ V 28 = .ref ca ∧ V 29 = .ref cb ∧ V 30 = .ref cr ∧ kcell D cA kt_37 w H W ∧ W 0 = .int w0 ∧ W 1 = .int w1
theorem cP3_P {r w ca cb cr : Nat} {w0 w1 : Int32} {H : Heap} (h : cP3 D cA r w ca cb cr w0 w1 H) : cP D cA r w w0 w1 H := by
  obtain ⟨V, W, h1, h2, -, -, -, h3, h4, h5⟩ := h
  exact ⟨V, W, h1, h2, h3, h4, h5⟩
theorem cP3_mov {wr : kW} {H0 H : Heap} {locs : List Loc} {r w ca cb cr : Nat} {w0 w1 : Int32} (hr : Ty r 36) (hw : Ty w 37) (hwr : ∀ q ∈ wr, q.1 ≠ 36 ∧ q.1 ≠ 37) (h : cP3 D cA r w ca cb cr w0 w1 H0) (hm : kmov D cA k_tt Ty lo wr H0 H locs) : cP3 D cA r w ca cb cr w0 w1 H := by
  obtain ⟨V, W, h1, h2, h3, h4, h5, h6, h7, h8⟩ := h
  have k1 : ∀ i, i < 38 → ∃ V', kcell D cA kt_36 r H V' ∧ V' i = V i := fun i hi => hm.2.2.1 r 36 kt_36 V i hr kt36 h1 hi (fun q hq e => absurd e (hwr q hq).1)
  have k2 : ∀ i, i < 115 → ∃ V', kcell D cA kt_37 w H V' ∧ V' i = W i := fun i hi => hm.2.2.1 w 37 kt_37 W i hw kt37 h6 hi (fun q hq e => absurd e (hwr q hq).2)
  obtain ⟨V', c1, -⟩ := k1 0 (by decide)
  obtain ⟨W', c2, -⟩ := k2 0 (by decide)
  have e1 : ∀ i, i < 38 → V' i = V i := fun i hi => by
    obtain ⟨V2, d1, d2⟩ := k1 i hi
    rw [← d2]
    exact kcell_uniq c1 d1 hi
  have e2 : ∀ i, i < 115 → W' i = W i := fun i hi => by
    obtain ⟨V2, d1, d2⟩ := k2 i hi
    rw [← d2]
    exact kcell_uniq c2 d1 hi
  exact ⟨V', W', c1, (e1 1 (by decide)).trans h2, (e1 28 (by decide)).trans h3, (e1 29 (by decide)).trans h4, (e1 30 (by decide)).trans h5, c2, (e2 0 (by decide)).trans h7, (e2 1 (by decide)).trans h8⟩
/-- the first k numbers of the row: each has its own bit, and none behind n -/
def cF (D : va_G) (cA : Nat → Nat) (ca n k : Nat) (H : Heap) : Prop := ∀ V, kcell D cA kt_47 ca H V → ∀ c, c < k → ∃ x : Int32, V c = .int x ∧ (∀ i, i < 32 → bt x i = true → i < n) ∧ bt x c = true
def layQ (D : va_G) (cA : Nat → Nat) (Ty : Nat → Nat → Prop) (lo ca n : Nat) (H : Heap) (v : Option Value) (H' : Heap) : Prop := ∃ mo : Int32, v = some (.int mo) ∧ 1 ≤ mo.toInt ∧ mo.toInt ≤ 20 ∧ kgood D cA k_tt Ty lo H' ∧ kfr lo H H' ∧ kkp D cA k_tt Ty [(47, none)] H H' ∧ cF D cA ca n n H'
theorem c_ofn {k : Nat} (h : k < 1000) : (Int32.ofNat k).toInt = (k : Int) := Int32.toInt_ofNat_of_lt (by omega)
theorem c_inc {k : Nat} : Int32.ofNat k + Int32.ofInt 1 = Int32.ofNat (k + 1) := by
  rw [Int32.ofNat_add]
  rfl
theorem c_lt {k n : Nat} (hk : k < 1000) (hn : n < 1000) : Int32.ofNat n ≤ Int32.ofNat k ↔ n ≤ k := by
  rw [Int32.le_iff_toInt_le, c_ofn hk, c_ofn hn]
  omega

set_option maxHeartbeats 4000000 in
theorem qm_layCov {r w ca cb cr n : Nat} {w0 w1 wi : Int32} (hT : kTyp k_tt Ty) (hr : Ty r 36) (hw : Ty w 37) (hca : Ty ca 47) (h0 : ¬ w0 = 0) (hn : w0 * w1 = Int32.ofNat n) (hn1 : 1 ≤ n) (hn2 : n ≤ 20) (hwi : 0 ≤ wi.toInt) : hMet l D cA aS lo qy_layCov prog_12_method_94_code 5 (some .int) 2 [.ref r, .int wi] (fun H => kgood D cA k_tt Ty lo H ∧ cP3 D cA r w ca cb cr w0 w1 H) (layQ D cA Ty lo ca n) := by
  refine hmk (by decide +kernel) (show 2 ≤ 5 by decide) (fun p e s m below meth c ls hcx hP hlv => ?_)
  obtain ⟨hexec, hb, hml, hown, hts, hrt, hlk, hK, -⟩ := id hcx
  have hown : s.vm.findClass "SilenceMatchModel" = some m.cls := hown
  have dc := qd_layCov
  have d0 := dc _ (List.mem_of_getElem? (i := 0) rfl)
  have d1 := dc _ (List.mem_of_getElem? (i := 1) rfl)
  have d2 := dc _ (List.mem_of_getElem? (i := 2) rfl)
  have d3 := dc _ (List.mem_of_getElem? (i := 3) rfl)
  have d4 := dc _ (List.mem_of_getElem? (i := 4) rfl)
  have d5 := dc _ (List.mem_of_getElem? (i := 5) rfl)
  have d6 := dc _ (List.mem_of_getElem? (i := 6) rfl)
  have d9 := dc _ (List.mem_of_getElem? (i := 7) rfl)
  have d12 := dc _ (List.mem_of_getElem? (i := 8) rfl)
  have d13 := dc _ (List.mem_of_getElem? (i := 9) rfl)
  have d16 := dc _ (List.mem_of_getElem? (i := 10) rfl)
  have d17 := dc _ (List.mem_of_getElem? (i := 11) rfl)
  have d18 := dc _ (List.mem_of_getElem? (i := 12) rfl)
  have d19 := dc _ (List.mem_of_getElem? (i := 13) rfl)
  have d20 := dc _ (List.mem_of_getElem? (i := 14) rfl)
  have d22 := dc _ (List.mem_of_getElem? (i := 15) rfl)
  have d24 := dc _ (List.mem_of_getElem? (i := 16) rfl)
  have d25 := dc _ (List.mem_of_getElem? (i := 17) rfl)
  have d28 := dc _ (List.mem_of_getElem? (i := 18) rfl)
  have d31 := dc _ (List.mem_of_getElem? (i := 19) rfl)
  have d32 := dc _ (List.mem_of_getElem? (i := 20) rfl)
  have d35 := dc _ (List.mem_of_getElem? (i := 21) rfl)
  have d36 := dc _ (List.mem_of_getElem? (i := 22) rfl)
  have d37 := dc _ (List.mem_of_getElem? (i := 23) rfl)
  have d38 := dc _ (List.mem_of_getElem? (i := 24) rfl)
  have d39 := dc _ (List.mem_of_getElem? (i := 25) rfl)
  have d40 := dc _ (List.mem_of_getElem? (i := 26) rfl)
  have d42 := dc _ (List.mem_of_getElem? (i := 27) rfl)
  have d45 := dc _ (List.mem_of_getElem? (i := 28) rfl)
  have d46 := dc _ (List.mem_of_getElem? (i := 29) rfl)
  have d49 := dc _ (List.mem_of_getElem? (i := 30) rfl)
  have d50 := dc _ (List.mem_of_getElem? (i := 31) rfl)
  have d52 := dc _ (List.mem_of_getElem? (i := 32) rfl)
  have d53 := dc _ (List.mem_of_getElem? (i := 33) rfl)
  have d56 := dc _ (List.mem_of_getElem? (i := 34) rfl)
  have d57 := dc _ (List.mem_of_getElem? (i := 35) rfl)
  have d58 := dc _ (List.mem_of_getElem? (i := 36) rfl)
  have d59 := dc _ (List.mem_of_getElem? (i := 37) rfl)
  have d62 := dc _ (List.mem_of_getElem? (i := 38) rfl)
  have d65 := dc _ (List.mem_of_getElem? (i := 39) rfl)
  have d66 := dc _ (List.mem_of_getElem? (i := 40) rfl)
  have d67 := dc _ (List.mem_of_getElem? (i := 41) rfl)
  have d70 := dc _ (List.mem_of_getElem? (i := 42) rfl)
  have d71 := dc _ (List.mem_of_getElem? (i := 43) rfl)
  have d72 := dc _ (List.mem_of_getElem? (i := 44) rfl)
  have d75 := dc _ (List.mem_of_getElem? (i := 45) rfl)
  have d78 := dc _ (List.mem_of_getElem? (i := 46) rfl)
  have d79 := dc _ (List.mem_of_getElem? (i := 47) rfl)
  have d82 := dc _ (List.mem_of_getElem? (i := 48) rfl)
  have d85 := dc _ (List.mem_of_getElem? (i := 49) rfl)
  have d86 := dc _ (List.mem_of_getElem? (i := 50) rfl)
  dsimp only at d0 d1 d2 d3 d4 d5 d6 d9 d12 d13 d16 d17 d18 d19 d20 d22 d24 d25 d28 d31 d32 d35 d36 d37 d38 d39 d40 d42 d45 d46 d49 d50 d52 d53 d56 d57 d58 d59 d62 d65 d66 d67 d70 d71 d72 d75 d78 d79 d82 d85 d86
  have hmP : ∀ {H : Heap} {locs : List Loc}, kmov D cA k_tt Ty lo [(47, none)] s.heap H locs → cP3 D cA r w ca cb cr w0 w1 H := fun hm => cP3_mov hr hw (fun q hq => by
    obtain rfl := List.mem_singleton.mp hq
    exact ⟨by decide, by decide⟩) hP.2 hm
  have hmL : ∀ {H : Heap} {locs L : List Loc}, kmov D cA k_tt Ty lo [(47, none)] s.heap H locs → (∀ q ∈ L, lo ≤ q.base) → kmov D cA k_tt Ty lo [(47, none)] s.heap H (locs ++ L) := fun hm hL => ⟨hm.1, hm.2.1, hm.2.2.1, fun q hq => by
    rcases List.mem_append.mp hq with g | g
    · exact hm.2.2.2 q g
    · exact hL q g⟩
  have inner : ∀ (i : Nat) (mo : Int32), i < n → (∀ (x : Int32) (H : Heap) (locs : List Loc) (ls : Array Slot) (V : Nat → Value), kmov D cA k_tt Ty lo [(47, none)] s.heap H locs → cF D cA ca n i H → kcell D cA kt_47 ca H V → V i = .int x → (∀ b, b < 32 → bt x b = true → b < n) → bt x i = true → lv_has ls 5 [(0, .ref r), (1, .int wi), (2, .int mo), (3, .int (Int32.ofNat i))] → hOwe p l e lo 2 (layQ D cA Ty lo ca n) s m ([.ref r, .int wi] : List Value).toArray below meth c H locs 65 ls []) → ∀ (f j : Nat) (x : Int32) (H : Heap) (locs : List Loc) (ls : Array Slot) (V : Nat → Value), j + f = n → kmov D cA k_tt Ty lo [(47, none)] s.heap H locs → cF D cA ca n i H → kcell D cA kt_47 ca H V → V i = .int x → (∀ b, b < 32 → bt x b = true → b < n) → (i < j → bt x i = true) → lv_has ls 5 [(0, .ref r), (1, .int wi), (2, .int mo), (3, .int (Int32.ofNat i)), (4, .int (Int32.ofNat j))] → hOwe p l e lo 2 (layQ D cA Ty lo ca n) s m ([.ref r, .int wi] : List Value).toArray below meth c H locs 22 ls [] := by
    intro i mo hi done f
    induction f with
    | zero =>
      intro j x H locs ls V hj hm hF hV hx hb1 hb2 hl
      obtain ⟨V36, W37, c1, e1, e28, e29, e30, c2, f0, f1⟩ := id (hmP hm)
      refine lv_iload hexec hb d22 (lv_at hl 4 rfl) ?_
      refine lv_aload_n hexec hb d24 rfl (lv_at hl 0 rfl) ?_
      refine h_callV (lo := lo) (As := []) (n := 0) (d' := 0) (P := cP D cA r w w0 w1) hexec hb hml hown hts hK c1 qm_cellMany (cP3_P (hmP hm)) rfl qw_cellMany qs_cellMany ql_83 (by decide +kernel) rfl (by decide) (by decide) hl.1 (by show 1 + 0 ≤ 8; decide) d25 (fun v H' L hq hL => ?_)
      obtain ⟨rfl, hHe⟩ := hq
      have hHe := hHe.symm
      subst hHe
      rw [hn]
      refine lv_icmp_ge (tgt := 65) hexec hb d28 rfl (fun _ => ?_) (fun hnn => absurd ((c_lt (by omega) (by omega)).mpr (by omega)) hnn)
      exact done x _ _ ls V (hmL hm hL) hF hV hx hb1 (hb2 (by omega)) (lv_sub hl [0, 1, 2, 3] rfl)
    | succ f ih =>
      intro j x H locs ls V hj hm hF hV hx hb1 hb2 hl
      obtain ⟨V36, W37, c1, e1, e28, e29, e30, c2, f0, f1⟩ := id (hmP hm)
      refine lv_iload hexec hb d22 (lv_at hl 4 rfl) ?_
      refine lv_aload_n hexec hb d24 rfl (lv_at hl 0 rfl) ?_
      refine h_callV (lo := lo) (As := []) (n := 0) (d' := 0) (P := cP D cA r w w0 w1) hexec hb hml hown hts hK c1 qm_cellMany (cP3_P (hmP hm)) rfl qw_cellMany qs_cellMany ql_83 (by decide +kernel) rfl (by decide) (by decide) hl.1 (by show 1 + 0 ≤ 8; decide) d25 (fun v H' L hq hL => ?_)
      obtain ⟨rfl, hHe⟩ := hq
      have hHe := hHe.symm
      subst hHe
      rw [hn]
      have hm := hmL hm hL
      refine lv_icmp_ge (tgt := 65) hexec hb d28 rfl (fun hge => absurd ((c_lt (by omega) (by omega)).mp hge) (by omega)) (fun _ => ?_)
      refine lv_aload_n hexec hb d31 rfl (lv_at hl 0 rfl) ?_
      refine h_get (T := kt_36) (idx := 49) (j := 28) (tc := 3) hexec hb hts k_clok hown hK wf_SilenceMatchModel (by decide) rfl (by decide) c1 d32 ?_
      rw [e28]
      refine lv_iload_n hexec hb d35 rfl (lv_at hl 3 rfl) ?_
      refine lv_dup2_11 hexec hb d36 rfl rfl ?_
      refine r_ald (T := kt_47) (ty := .int) (z := i) hexec hb hK rfl rfl rfl (c_ofn (by omega)) (show i < 20 by omega) hV d37 ?_
      rw [hx]
      refine lv_aload_n hexec hb d38 rfl (lv_at hl 0 rfl) ?_
      refine lv_iload_n hexec hb d39 rfl (lv_at hl 3 rfl) ?_
      refine lv_iload hexec hb d40 (lv_at hl 4 rfl) ?_
      refine h_callV (lo := lo) (As := [.int (Int32.ofNat i), .int (Int32.ofNat j)]) (n := 2) (d' := 1) (P := cP D cA r w w0 w1) hexec hb hml hown hts hK c1 (qm_farOf h0) (cP3_P (hmP hm)) rfl qw_farOf qs_farOf ql_218 (by decide +kernel) rfl (by decide) (by decide) hl.1 (by show 1 + (1 + (1 + 0)) ≤ 8; decide) d42 (fun v H' L' hq hL' => ?_)
      obtain ⟨y, rfl, hHe, hy⟩ := hq
      have hHe := hHe.symm
      subst hHe
      have hm := hmL hm hL'
      refine lv_iload_n hexec hb d45 rfl (lv_at hl 1 rfl) ?_
      -- what is set
      have st : ∀ (b : Int32) (locs : List Loc), kmov D cA k_tt Ty lo [(47, none)] s.heap H locs → (∀ t, t < 32 → bt b t = true → t = j) → (i = j → bt b j = true) → hOwe p l e lo 2 (layQ D cA Ty lo ca n) s m ([.ref r, .int wi] : List Value).toArray below meth c H locs 57 ls [.int b, .int x, .int (Int32.ofNat i), .ref ca] := by
        intro b locs hm hb3 hb4
        refine lv_ior hexec hb d57 ?_
        have hbx : ∀ t, t < 32 → bt (x ||| b) t = true → t < n := fun t ht hbt => by
          rw [bt_or] at hbt
          cases hq : bt x t with
          | true => exact hb1 t ht hq
          | false =>
            rw [hq, Bool.false_or] at hbt
            have := hb3 t ht hbt
            omega
        have hrg := bt_rng (fun t ht hbt => by have := hbx t ht hbt; omega)
        obtain ⟨-, V0, hV0, hvl⟩ := hm.1.1 ca 47 _ hca kt47
        refine r_ast (T := kt_47) (ty := .int) (z := i) (v := .int (x ||| b)) hexec hb hK rfl rfl rfl trivial (c_ofn (by omega)) (show i < 20 by omega) hV0 d58 (fun H1 q0 hc1 hs1 ho1 => ?_)
        have hm1 : kmov D cA k_tt Ty lo [(47, none)] s.heap H1 (locs ++ [⟨ca, q0⟩]) := c_put (k := 20) (P := .inl [(0, 1048575)]) hT hm hca kt47 (List.mem_singleton.mpr rfl) rfl (by decide) hvl hc1 hs1 ho1 rfl rfl ⟨_, rfl, (0, 1048575), List.mem_singleton.mpr rfl, hrg.1, hrg.2⟩
        refine lv_iinc (k := 4) hexec hb d59 hl rfl rfl (by decide) rfl (fun ls2 hl2 => ?_)
        refine lv_goto (tgt := 22) hexec hb d62 rfl ?_
        rw [c_inc] at hl2
        refine ih (j + 1) (x ||| b) H1 _ ls2 _ (by omega) hm1 (fun V2 hV2 q hq => ?_) hc1 updV_same hbx (fun hij => ?_) (lv_sub hl2 [1, 2, 3, 4, 0] rfl)
        · obtain ⟨x2, g1, g2⟩ := hF V0 hV0 q hq
          refine ⟨x2, ?_, g2⟩
          rw [kcell_uniq hV2 hc1 (show q < 20 by omega), updV_ne (by omega)]
          exact g1
        · rw [bt_or]
          by_cases e : i = j
          · subst e
            rw [hb4 rfl, Bool.or_true]
          · rw [hb2 (by omega), Bool.true_or]
      refine lv_icmp_gt (tgt := 56) hexec hb d46 rfl (fun hgt => ?_) (fun hng => ?_)
      · refine lv_iconst (v := 0) hexec hb d56 rfl ?_
        refine st 0 _ hm (fun t ht hbt => by rw [bt_0] at hbt; cases hbt) (fun e => ?_)
        exfalso
        rw [hy (by rw [e])] at hgt
        have := Int32.lt_iff_toInt_lt.mp hgt
        have h00 : (0 : Int32).toInt = 0 := rfl
        omega
      · refine lv_iconst (v := 1) hexec hb d49 rfl ?_
        refine lv_iload hexec hb d50 (lv_at hl 4 rfl) ?_
        refine lv_ishl hexec hb d52 ?_
        refine lv_goto (tgt := 57) hexec hb d53 rfl ?_
        exact st _ _ hm (fun t ht hbt => by
          rw [bt_one j (by omega) t ht] at hbt
          exact of_decide_eq_true hbt) (fun _ => by rw [bt_one j (by omega) j (by omega)]; exact decide_eq_true rfl)
  have outer : ∀ (f i : Nat) (mo : Int32) (H : Heap) (locs : List Loc) (ls : Array Slot), i + f = n → kmov D cA k_tt Ty lo [(47, none)] s.heap H locs → cF D cA ca n i H → 0 ≤ mo.toInt → mo.toInt ≤ 20 → (0 < i → 1 ≤ mo.toInt) → lv_has ls 5 [(0, .ref r), (1, .int wi), (2, .int mo), (3, .int (Int32.ofNat i))] → hOwe p l e lo 2 (layQ D cA Ty lo ca n) s m ([.ref r, .int wi] : List Value).toArray below meth c H locs 4 ls [] := by
    intro f
    induction f with
    | zero =>
      intro i mo H locs ls hi hm hF hm0 hm1 hm2 hl
      obtain ⟨V36, W37, c1, e1, e28, e29, e30, c2, f0, f1⟩ := id (hmP hm)
      refine lv_iload_n hexec hb d4 rfl (lv_at hl 3 rfl) ?_
      refine lv_aload_n hexec hb d5 rfl (lv_at hl 0 rfl) ?_
      refine h_callV (lo := lo) (As := []) (n := 0) (d' := 0) (P := cP D cA r w w0 w1) hexec hb hml hown hts hK c1 qm_cellMany (cP3_P (hmP hm)) rfl qw_cellMany qs_cellMany ql_83 (by decide +kernel) rfl (by decide) (by decide) hl.1 (by show 1 + 0 ≤ 8; decide) d6 (fun v H' L hq hL => ?_)
      obtain ⟨rfl, hHe⟩ := hq
      have hHe := hHe.symm
      subst hHe
      rw [hn]
      refine lv_icmp_ge (tgt := 85) hexec hb d9 rfl (fun _ => ?_) (fun hnn => absurd ((c_lt (by omega) (by omega)).mpr (by omega)) hnn)
      have hm := hmL hm hL
      refine lv_iload_n hexec hb d85 rfl (lv_at hl 2 rfl) ?_
      obtain rfl : i = n := by omega
      exact W.iret hexec hb hrt (fun t ht _ => ⟨_, rfl, mo, rfl, hm2 (by omega), hm1, by rw [ht]; exact hm.1, by rw [ht]; exact hm.2.1, by rw [ht]; exact hm.2.2.1, by rw [ht]; exact hF⟩) hm.2.2.2 d86 hlk
    | succ f ih =>
      intro i mo H locs ls hi hm hF hm0 hm1 hm2 hl
      obtain ⟨V36, W37, c1, e1, e28, e29, e30, c2, f0, f1⟩ := id (hmP hm)
      refine lv_iload_n hexec hb d4 rfl (lv_at hl 3 rfl) ?_
      refine lv_aload_n hexec hb d5 rfl (lv_at hl 0 rfl) ?_
      refine h_callV (lo := lo) (As := []) (n := 0) (d' := 0) (P := cP D cA r w w0 w1) hexec hb hml hown hts hK c1 qm_cellMany (cP3_P (hmP hm)) rfl qw_cellMany qs_cellMany ql_83 (by decide +kernel) rfl (by decide) (by decide) hl.1 (by show 1 + 0 ≤ 8; decide) d6 (fun v H' L hq hL => ?_)
      obtain ⟨rfl, hHe⟩ := hq
      have hHe := hHe.symm
      subst hHe
      rw [hn]
      have hm := hmL hm hL
      refine lv_icmp_ge (tgt := 85) hexec hb d9 rfl (fun hge => absurd ((c_lt (by omega) (by omega)).mp hge) (by omega)) (fun _ => ?_)
      refine lv_aload_n hexec hb d12 rfl (lv_at hl 0 rfl) ?_
      refine h_get (T := kt_36) (idx := 49) (j := 28) (tc := 3) hexec hb hts k_clok hown hK wf_SilenceMatchModel (by decide) rfl (by decide) c1 d13 ?_
      rw [e28]
      refine lv_iload_n hexec hb d16 rfl (lv_at hl 3 rfl) ?_
      refine lv_iconst (v := 0) hexec hb d17 rfl ?_
      obtain ⟨-, V0, hV0, hvl⟩ := hm.1.1 ca 47 _ hca kt47
      refine r_ast (T := kt_47) (ty := .int) (z := i) (v := .int 0) hexec hb hK rfl rfl rfl trivial (c_ofn (by omega)) (show i < 20 by omega) hV0 d18 (fun H1 q0 hc1 hs1 ho1 => ?_)
      have hmA : kmov D cA k_tt Ty lo [(47, none)] s.heap H1 (_ ++ [⟨ca, q0⟩]) := c_put (k := 20) (P := .inl [(0, 1048575)]) hT hm hca kt47 (List.mem_singleton.mpr rfl) rfl (by decide) hvl hc1 hs1 ho1 rfl rfl ⟨_, rfl, (0, 1048575), List.mem_singleton.mpr rfl, by decide, by decide⟩
      have hFA : cF D cA ca n i H1 := fun V2 hV2 q hq => by
        obtain ⟨x2, g1, g2⟩ := hF V0 hV0 q hq
        refine ⟨x2, ?_, g2⟩
        rw [kcell_uniq hV2 hc1 (show q < 20 by omega), updV_ne (by omega)]
        exact g1
      refine lv_iconst (v := 0) hexec hb d19 rfl ?_
      refine lv_istore hexec hb d20 hl (by decide) rfl (fun ls1 hl1 => ?_)
      refine inner i mo (by omega) (fun x H2 locs2 ls2 V2 hmB hFB hVB hxB hb1 hb2 hl2 => ?_) n 0 0 H1 _ ls1 _ (by omega) hmA hFA hc1 updV_same (fun b hb hbt => by rw [bt_0] at hbt; cases hbt) (fun hh => by omega) (lv_sub hl1 [1, 2, 3, 4, 0] rfl)
      obtain ⟨V36', W37', c1', e1', e28', -⟩ := id (hmP hmB)
      refine lv_iload_n hexec hb d65 rfl (lv_at hl2 2 rfl) ?_
      refine lv_aload_n hexec hb d66 rfl (lv_at hl2 0 rfl) ?_
      refine h_get (T := kt_36) (idx := 49) (j := 28) (tc := 3) hexec hb hts k_clok hown hK wf_SilenceMatchModel (by decide) rfl (by decide) c1' d67 ?_
      rw [e28']
      refine lv_iload_n hexec hb d70 rfl (lv_at hl2 3 rfl) ?_
      refine r_ald (T := kt_47) (ty := .int) (z := i) hexec hb hK rfl rfl rfl (c_ofn (by omega)) (show i < 20 by omega) hVB d71 ?_
      rw [hxB]
      refine h_callS (lo := lo) (As := [.int x]) (n := 1) (d' := 0) (P := fun _ => True) hexec hb hml hown hts hK qm_bits trivial qw_bits qs_bits ql_373 (by decide) (by decide +kernel) rfl (by decide) (by decide) hl2.1 (by show 1 + 0 ≤ 8; decide) d72 (fun v H' L2 hq hL2 => ?_)
      obtain ⟨rfl, hHe⟩ := hq
      have hHe := hHe.symm
      subst hHe
      have hmB := hmL hmB hL2
      refine h_callS (lo := lo) (As := [.int mo, .int (Int32.ofNat (cnt x 20))]) (rest := []) (n := 2) (d' := 0) (P := fun _ => True) hexec hb hml hown hts hK qm_max trivial qw_max qs_max ql_344 (by decide) (by decide +kernel) rfl (by decide) (by decide) hl2.1 (by decide) d75 (fun v H' L3 hq hL3 => ?_)
      obtain ⟨z, rfl, hHe, z1, z2, z3⟩ := hq
      have hHe := hHe.symm
      subst hHe
      have hmB := hmL hmB hL3
      have hcn := cnt_le x 20
      have hc1' := cnt_pos hb2 20 (by omega)
      have hci : (Int32.ofNat (cnt x 20)).toInt = (cnt x 20 : Int) := c_ofn (by omega)
      refine lv_istore_n hexec hb d78 rfl hl2 (by decide) rfl (fun ls3 hl3 => ?_)
      refine lv_iinc (k := 3) hexec hb d79 hl3 rfl rfl (by decide) rfl (fun ls4 hl4 => ?_)
      refine lv_goto (tgt := 4) hexec hb d82 rfl ?_
      rw [c_inc] at hl4
      refine ih (i + 1) z _ _ ls4 (by omega) hmB (fun V3 hV3 q hq => ?_) (by omega) (by rcases z3 with rfl | rfl <;> omega) (fun _ => by omega) (lv_sub hl4 [2, 3, 1, 0] rfl)
      by_cases e : q = i
      · subst e
        exact ⟨x, by rw [kcell_uniq hV3 hVB (show q < 20 by omega)]; exact hxB, hb1, hb2⟩
      · exact hFB V3 hV3 q (by omega)
  refine lv_iconst (v := 0) hexec hb d0 rfl ?_
  refine lv_istore_n hexec hb d1 rfl hlv (by decide) rfl (fun ls1 hl1 => ?_)
  refine lv_iconst (v := 0) hexec hb d2 rfl ?_
  refine lv_istore_n hexec hb d3 rfl hl1 (by decide) rfl (fun ls2 hl2 => ?_)
  exact outer n 0 0 s.heap [] ls2 (by omega) ⟨hP.1, kfr_rfl, kkp_rfl, fun q hq => by cases hq⟩ (fun V hV q hq => by omega) (by decide) (by decide) (fun h => by omega) (lv_sub hl2 [2, 3, 1, 0] rfl)

end HLAY
