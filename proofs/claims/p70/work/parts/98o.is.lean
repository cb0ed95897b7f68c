/-! BY HAND: does the model stand at this word? -/
section HIS
variable {l : Launch} {D : va_G} {cA aS adV : Nat → Nat} {Ty : Nat → Nat → Prop} {lo : Nat} {X : State → Heap → Prop}
def kt_40 : kT := (102, 900, [(0, 1, 900, .inl [(-128, 127)])], [])
theorem kt40 : k_tt[40]? = some kt_40 := rfl
def is_w (j : Nat) : List Int := (s_byt.getD j []).map Int32.toInt
theorem is_drop {L : List Int32} {k : Nat} (h : k < L.length) : (L.map Int32.toInt).drop k = (L.getD k 0).toInt :: (L.map Int32.toInt).drop (k + 1) := by
  rw [List.drop_eq_getElem_cons (by simpa using h)]
  simp [List.getD, h]
theorem kmt_head {V Vt : Nat → Value} {c : Int} {t : List Int} (h : kmt V Vt (c :: t) = true) : ∃ (fr b : Int32), V 9 = .int fr ∧ Vt fr.toInt.toNat = .int b ∧ b.toInt = c := by
  unfold kmt at h
  split at h
  · rename_i fk tk fr at_ h1 h2 h3 h4
    have h5 := (Bool.and_eq_true_iff.mp h).2
    unfold kmb at h5
    have h6 := (Bool.and_eq_true_iff.mp h5).1
    split at h6
    · rename_i b hb
      exact ⟨fr, b, h3, hb, of_decide_eq_true h6⟩
    · cases h6
  · cases h
theorem kmt_ne {V Vt : Nat → Value} {c c' : Int} {t t' : List Int} (h : kmt V Vt (c :: t) = true) (hc : c ≠ c') : ¬ kmt V Vt (c' :: t') = true := fun h' => by
  obtain ⟨fr, b, e1, e2, e3⟩ := kmt_head h
  obtain ⟨fr', b', e1', e2', e3'⟩ := kmt_head h'
  have e : (Value.int fr) = .int fr' := e1.symm.trans e1'
  injection e with e
  subst e
  have e : (Value.int b) = .int b' := e2.symm.trans e2'
  injection e with e
  subst e
  exact hc (e3.symm.trans e3')
theorem is_w1 {V Vt : Nat → Value} : kmt V Vt kw1 = true ↔ kwhich V Vt = 1 := by
  unfold kwhich
  split
  · rename_i h; exact ⟨fun _ => rfl, fun _ => h⟩
  · rename_i h
    refine ⟨fun h' => absurd h' h, fun h' => ?_⟩
    split at h'
    · omega
    · split at h'
      · omega
      · split at h' <;> omega
theorem is_w2 {V Vt : Nat → Value} : kmt V Vt kw2 = true ↔ kwhich V Vt = 2 := by
  unfold kwhich
  split
  · rename_i h; exact ⟨fun h' => absurd h' (kmt_ne h (by decide)), fun h' => by omega⟩
  · split
    · rename_i h; exact ⟨fun _ => rfl, fun _ => h⟩
    · rename_i h
      refine ⟨fun h' => absurd h' h, fun h' => ?_⟩
      split at h'
      · omega
      · split at h' <;> omega
theorem is_w3 {V Vt : Nat → Value} : kmt V Vt kw3 = true ↔ kwhich V Vt = 3 := by
  unfold kwhich
  split
  · rename_i h; exact ⟨fun h' => absurd h' (kmt_ne h (by decide)), fun h' => by omega⟩
  · split
    · rename_i h; exact ⟨fun h' => absurd h' (kmt_ne h (by decide)), fun h' => by omega⟩
    · split
      · rename_i h; exact ⟨fun _ => rfl, fun _ => h⟩
      · rename_i h
        refine ⟨fun h' => absurd h' h, fun h' => ?_⟩
        split at h' <;> omega
theorem is_w4 {V Vt : Nat → Value} : kmt V Vt kw4 = true ↔ kwhich V Vt = 4 := by
  unfold kwhich
  split
  · rename_i h; exact ⟨fun h' => absurd h' (kmt_ne h (by decide)), fun h' => by omega⟩
  · split
    · rename_i h; exact ⟨fun h' => absurd h' (kmt_ne h (by decide)), fun h' => by omega⟩
    · split
      · rename_i h; exact ⟨fun h' => absurd h' (kmt_ne h (by decide)), fun h' => by omega⟩
      · split
        · rename_i h; exact ⟨fun _ => rfl, fun _ => h⟩
        · rename_i h
          exact ⟨fun h' => absurd h' h, fun h' => by omega⟩
def is_Sg : kS := ([], [36], [], [.inr (.inr (.inl 0))], [(0, kcst 12, .inl (kcst 0))], [])
def is_Sn : kS := ([(1, 3)], [36], [], [.inr (.inr (.inl 0))], [(0, kcst 12, .inl (ksym 0))], [])
def is_Lg : List kS := (kinv k_tt k_aty k_ct ow_SilenceMatchModel [(1, [421])] [] 8 1 (.invokevirtual 127) is_Sg).getD []
theorem is_ig : kinv k_tt k_aty k_ct ow_SilenceMatchModel [(1, [421])] [] 8 1 (.invokevirtual 127) is_Sg = some is_Lg := h_opt [] (by decide +kernel)
theorem is_ag : is_Lg.all (fun S => match S.2.2.2.1 with
  | [.inl f] => kLeq f (kcst 1)
  | _ => false) = true := by decide +kernel
def is_Ln : List kS := (kinv k_tt k_aty k_ct ow_SilenceMatchModel [(1, [422])] [] 8 1 (.invokevirtual 127) is_Sn).getD []
theorem is_in : kinv k_tt k_aty k_ct ow_SilenceMatchModel [(1, [422])] [] 8 1 (.invokevirtual 127) is_Sn = some is_Ln := h_opt [] (by decide +kernel)
theorem is_an : is_Ln.all (fun S => match S.2.2.2.1 with
  | [.inl f] => kLeq f (kcst 0)
  | _ => false) = true := by decide +kernel
set_option maxHeartbeats 4000000 in
theorem is_core {p : Program} {e : Env} {s : State} {m : MethodId} {args : Array Value} {below : List Frame} {meth : Method} {c : Code} {Q : State → Prop} (hcx : kCtx p k_cl k_aty k_lg k_ns k_sk D cA aS (sX aS adV lo) ⟨"SilenceMatchModel", "is", "(Ljava/lang/String;)Z"⟩ prog_12_method_20_code 4 (some .boolean) s m args meth c) (hR : kRest l k_cl k_aty k_lg k_ns k_sk (k_mw.map (fun x => x.1)) D cA aS k_tt Ty lo (sX aS adV lo) k_ct "SilenceMatchModel" ow_SilenceMatchModel 8) {r b j : Nat} {V Vt : Nat → Value} {ls : Array Slot} (hj : j < 34) (hr : Ty r 36) (hG : kgood D cA k_tt Ty lo s.heap) (hc : kcell D cA kt_36 r s.heap V) (e4 : V 4 = .ref b) (hb40 : Ty b 40) (hct : kcell D cA kt_40 b s.heap Vt) (hlv : lv_has ls 4 [(0, .ref r), (1, .ref (aS j))])
    (kk : ∀ (H : Heap) (locs : List Loc) (ls : Array Slot), kmov D cA k_tt Ty lo [] s.heap H locs → lv_has ls 4 [(2, .int (if kmt V Vt (is_w j) = true then 1 else 0))] → W p l e (krm 8) s m args below meth c H locs 0 0 Q (F0 m 82 ls [])) : W p l e (krm 8) s m args below meth c s.heap [] 0 0 Q (F0 m 0 ls []) := by
  obtain ⟨hexec, hb, hml, hown, hts, hrt, hlk, hK, hXs⟩ := id hcx
  obtain ⟨r1, r2, r3, r4, r5, r6, r7, r8, r9, r10, r11⟩ := id hR
  obtain ⟨hlo, V', hc', hv'⟩ := hG.1 r 36 _ hr kt36
  have hv : kpok Ty (.inl [(0, 900)]) (V 8) ∧ kpok Ty (.inl [(0, 900)]) (V 9) ∧ kpok Ty (.inl [(0, 4)]) (V 10) ∧ kpok Ty (.inl [(0, 3)]) (V 12) := by
    have q : ∀ i, i < 38 → V' i = V i := fun i hi => kcell_uniq hc' hc hi
    rw [← q 8 (by decide), ← q 9 (by decide), ← q 10 (by decide), ← q 12 (by decide)]
    exact ⟨hv'.1 (8, 1, 1, .inl [(0, 900)]) (List.mem_of_getElem? (i := 8) rfl) 0 (by decide), hv'.1 (9, 1, 1, .inl [(0, 900)]) (List.mem_of_getElem? (i := 9) rfl) 0 (by decide), hv'.1 (10, 1, 1, .inl [(0, 4)]) (List.mem_of_getElem? (i := 10) rfl) 0 (by decide), hv'.1 (12, 1, 1, .inl [(0, 3)]) (List.mem_of_getElem? (i := 12) rfl) 0 (by decide)⟩
  obtain ⟨⟨k8, e8, x8, hx8, b8, c8⟩, ⟨k9, e9, x9, hx9, b9, c9⟩, ⟨k10, e10, x10, hx10, b10, c10⟩, ⟨k12, e12, x12, hx12, b12, c12⟩⟩ := hv
  obtain rfl : x8 = (0, 900) := by simpa using hx8
  obtain rfl : x9 = (0, 900) := by simpa using hx9
  obtain rfl : x12 = (0, 3) := by simpa using hx12
  have b8 : (0 : Int) ≤ k8.toInt := b8
  have c8 : k8.toInt ≤ 900 := c8
  have b9 : (0 : Int) ≤ k9.toInt := b9
  have c9 : k9.toInt ≤ 900 := c9
  have b12 : (0 : Int) ≤ k12.toInt := b12
  have c12 : k12.toInt ≤ 3 := c12
  have len8 := s_lt j hj
  have hlen : (Int32.ofNat (s_len.getD j 0)).toInt = (s_len.getD j 0 : Int) := Int32.toInt_ofNat_of_lt (by omega)
  have hw0 : ((is_w j).length : Int) = (s_len.getD j 0 : Int) := by rw [len8.2.1]; simp [is_w]
  have hkm : kmt V Vt (is_w j) = ((decide (k12.toInt = 0 ∧ k10.toInt = 1 ∧ k8.toInt - k9.toInt = (s_len.getD j 0 : Int) ∧ 0 ≤ k9.toInt ∧ k8.toInt ≤ 900)) && kmb Vt k9.toInt.toNat (is_w j)) := by
    unfold kmt
    rw [e12, e10, e9, e8]
    simp only [hw0]
  have dc := dc_X10_is
  have d0 := dc _ (List.mem_of_getElem? (i := 0) rfl)
  have d1 := dc _ (List.mem_of_getElem? (i := 1) rfl)
  have d4 := dc _ (List.mem_of_getElem? (i := 2) rfl)
  have d7 := dc _ (List.mem_of_getElem? (i := 3) rfl)
  have d8 := dc _ (List.mem_of_getElem? (i := 4) rfl)
  have d11 := dc _ (List.mem_of_getElem? (i := 5) rfl)
  have d12 := dc _ (List.mem_of_getElem? (i := 6) rfl)
  have d15 := dc _ (List.mem_of_getElem? (i := 7) rfl)
  have d16 := dc _ (List.mem_of_getElem? (i := 8) rfl)
  have d19 := dc _ (List.mem_of_getElem? (i := 9) rfl)
  have d20 := dc _ (List.mem_of_getElem? (i := 10) rfl)
  have d23 := dc _ (List.mem_of_getElem? (i := 11) rfl)
  have d24 := dc _ (List.mem_of_getElem? (i := 12) rfl)
  have d25 := dc _ (List.mem_of_getElem? (i := 13) rfl)
  have d28 := dc _ (List.mem_of_getElem? (i := 14) rfl)
  have d31 := dc _ (List.mem_of_getElem? (i := 15) rfl)
  have d32 := dc _ (List.mem_of_getElem? (i := 16) rfl)
  have d35 := dc _ (List.mem_of_getElem? (i := 17) rfl)
  have d36 := dc _ (List.mem_of_getElem? (i := 18) rfl)
  have d37 := dc _ (List.mem_of_getElem? (i := 19) rfl)
  have d38 := dc _ (List.mem_of_getElem? (i := 20) rfl)
  have d39 := dc _ (List.mem_of_getElem? (i := 21) rfl)
  have d40 := dc _ (List.mem_of_getElem? (i := 22) rfl)
  have d41 := dc _ (List.mem_of_getElem? (i := 23) rfl)
  have d44 := dc _ (List.mem_of_getElem? (i := 24) rfl)
  have d47 := dc _ (List.mem_of_getElem? (i := 25) rfl)
  have d48 := dc _ (List.mem_of_getElem? (i := 26) rfl)
  have d51 := dc _ (List.mem_of_getElem? (i := 27) rfl)
  have d52 := dc _ (List.mem_of_getElem? (i := 28) rfl)
  have d55 := dc _ (List.mem_of_getElem? (i := 29) rfl)
  have d56 := dc _ (List.mem_of_getElem? (i := 30) rfl)
  have d59 := dc _ (List.mem_of_getElem? (i := 31) rfl)
  have d60 := dc _ (List.mem_of_getElem? (i := 32) rfl)
  have d61 := dc _ (List.mem_of_getElem? (i := 33) rfl)
  have d62 := dc _ (List.mem_of_getElem? (i := 34) rfl)
  have d63 := dc _ (List.mem_of_getElem? (i := 35) rfl)
  have d64 := dc _ (List.mem_of_getElem? (i := 36) rfl)
  have d67 := dc _ (List.mem_of_getElem? (i := 37) rfl)
  have d70 := dc _ (List.mem_of_getElem? (i := 38) rfl)
  have d71 := dc _ (List.mem_of_getElem? (i := 39) rfl)
  have d74 := dc _ (List.mem_of_getElem? (i := 40) rfl)
  have d75 := dc _ (List.mem_of_getElem? (i := 41) rfl)
  have d76 := dc _ (List.mem_of_getElem? (i := 42) rfl)
  have d79 := dc _ (List.mem_of_getElem? (i := 43) rfl)
  have d82 := dc _ (List.mem_of_getElem? (i := 44) rfl)
  have d83 := dc _ (List.mem_of_getElem? (i := 45) rfl)
  dsimp only at d0 d1 d4 d7 d8 d11 d12 d15 d16 d19 d20 d23 d24 d25 d28 d31 d32 d35 d36 d37 d38 d39 d40 d41 d44 d47 d48 d51 d52 d55 d56 d59 d60 d61 d62 d63 d64 d67 d70 d71 d74 d75 d76 d79 d82 d83
  have at_ : ∀ (H : Heap) (locs : List Loc) (i : Nat), i < 38 → kmov D cA k_tt Ty lo [] s.heap H locs → ∃ W, kcell D cA kt_36 r H W ∧ W i = V i := fun H locs i hi hm => hm.2.2.1 r 36 kt_36 V i hr kt36 hc (show i < 38 from hi) (fun w hw => by cases hw)
  have at4 : ∀ (H : Heap) (locs : List Loc) (i : Nat), i < 900 → kmov D cA k_tt Ty lo [] s.heap H locs → ∃ W, kcell D cA kt_40 b H W ∧ W i = Vt i := fun H locs i hi hm => hm.2.2.1 b 40 kt_40 Vt i hb40 kt40 hct (show i < 900 from hi) (fun w hw => by cases hw)
  have loop : ∀ (f k : Nat) (i : Int32) (g : Bool) (H : Heap) (locs : List Loc) (ls : Array Slot), k + f = s_len.getD j 0 → i.toInt = (k : Int) → kmt V Vt (is_w j) = (g && kmb Vt (k9.toInt.toNat + k) ((is_w j).drop k)) → (g = true → k8.toInt - k9.toInt = (s_len.getD j 0 : Int)) → kmov D cA k_tt Ty lo [] s.heap H locs → lv_has ls 4 [(0, .ref r), (1, .ref (aS j)), (2, .int (if g = true then 1 else 0)), (3, .int i)] → W p l e (krm 8) s m args below meth c H locs 0 0 Q (F0 m 39 ls []) := by
    intro f
    induction f with
    | zero =>
      intro k i g H locs ls hk hi hg hpre hm hl
      refine lv_iload_n hexec hb d39 rfl (lv_at hl 3 rfl) ?_
      refine lv_aload_n hexec hb d40 rfl (lv_at hl 1 rfl) ?_
      refine s_callV (As := []) (n := 0) (d' := 1) hj hexec hb hml hown hts hXs hm.2.1.2 (sm_length hj) sw_length ss_length sl_SilenceMatchModel_131 (by decide) (by decide +kernel) rfl (by decide) (by decide) hl.1 (by show 1 + 0 ≤ 8; decide) d41 ?_
      refine lv_icmp_ge (tgt := 82) hexec hb d44 rfl (fun _ => ?_) (fun hn => absurd (Int32.le_iff_toInt_le.mpr (by rw [hlen, hi]; omega)) hn)
      have e0 : (is_w j).drop k = [] := List.drop_eq_nil_of_le (by omega)
      have e1 : kmt V Vt (is_w j) = g := by rw [hg, e0]; simp [kmb]
      exact kk H locs ls hm (by rw [e1]; exact lv_sub hl [2] rfl)
    | succ f ih =>
      intro k i g H locs ls hk hi hg hpre hm hl
      refine lv_iload_n hexec hb d39 rfl (lv_at hl 3 rfl) ?_
      refine lv_aload_n hexec hb d40 rfl (lv_at hl 1 rfl) ?_
      refine s_callV (As := []) (n := 0) (d' := 1) hj hexec hb hml hown hts hXs hm.2.1.2 (sm_length hj) sw_length ss_length sl_SilenceMatchModel_131 (by decide) (by decide +kernel) rfl (by decide) (by decide) hl.1 (by show 1 + 0 ≤ 8; decide) d41 ?_
      refine lv_icmp_ge (tgt := 82) hexec hb d44 rfl (fun hge => absurd (Int32.le_iff_toInt_le.mp hge) (by rw [hlen, hi]; omega)) (fun _ => ?_)
      refine lv_iload_n hexec hb d47 rfl (lv_at hl 2 rfl) ?_
      cases g with
      | false =>
        refine lv_if_eq (tgt := 82) hexec hb d48 rfl (fun _ => ?_) (fun hn => absurd rfl hn)
        have e1 : kmt V Vt (is_w j) = false := by rw [hg]; simp
        exact kk H locs ls hm (by rw [e1]; exact lv_sub hl [2] rfl)
      | true =>
        have hpre := hpre rfl
        refine lv_if_eq (tgt := 82) hexec hb d48 rfl (fun hz => absurd hz (by decide)) (fun _ => ?_)
        obtain ⟨W4, w4, x4⟩ := at_ H locs 4 (by decide) hm
        obtain ⟨W9, w9, x9⟩ := at_ H locs 9 (by decide) hm
        obtain ⟨Wt, wt, xt⟩ := at4 H locs (k9.toInt.toNat + k) (by omega) hm
        obtain ⟨-, Vr, hcr, hvr⟩ := hm.1.1 b 40 _ hb40 kt40
        obtain ⟨kb, eb, -⟩ := hvr.1 (0, 1, 900, .inl [(-128, 127)]) (List.mem_of_getElem? (i := 0) rfl) (k9.toInt.toNat + k) (show k9.toInt.toNat + k < 900 by omega)
        have eb : Vr (k9.toInt.toNat + k) = .int kb := by
          have : 0 + 1 * (k9.toInt.toNat + k) = k9.toInt.toNat + k := by omega
          rw [← this]; exact eb
        have eb : Vt (k9.toInt.toNat + k) = .int kb := by
          rw [← xt, ← kcell_uniq hcr wt (show k9.toInt.toNat + k < 900 by omega)]
          exact eb
        refine lv_aload_n hexec hb d51 rfl (lv_at hl 0 rfl) ?_
        refine h_get (T := kt_36) (idx := 20) (j := 4) (tc := 3) hexec hb hts k_clok hown hK wf_SilenceMatchModel (by decide) rfl (by decide) w4 d52 ?_
        rw [x4, e4]
        refine lv_aload_n hexec hb d55 rfl (lv_at hl 0 rfl) ?_
        refine h_get (T := kt_36) (idx := 100) (j := 9) (tc := 0) hexec hb hts k_clok hown hK wf_SilenceMatchModel (by decide) rfl (by decide) w9 d56 ?_
        rw [x9, e9]
        refine lv_iload_n hexec hb d59 rfl (lv_at hl 3 rfl) ?_
        refine lv_iadd hexec hb d60 ?_
        have hadd : (k9 + i).toInt = ((k9.toInt.toNat + k : Nat) : Int) := by
          rw [Int32.toInt_add, hi, k32_bm (by show (-2147483648 : Int) ≤ _; omega) (by show _ ≤ (2147483647 : Int); omega)]
          omega
        refine r_ald (T := kt_40) (ty := .byte) hexec hb hK rfl rfl rfl hadd (show k9.toInt.toNat + k < 900 by omega) wt d61 ?_
        rw [xt, eb]
        refine lv_aload_n hexec hb d62 rfl (lv_at hl 1 rfl) ?_
        refine lv_iload_n hexec hb d63 rfl (lv_at hl 3 rfl) ?_
        refine s_callV (As := [.int i]) (n := 1) (d' := 3) hj hexec hb hml hown hts hXs hm.2.1.2 (sm_charAt hj (by omega) (by omega)) sw_charAt ss_charAt sl_SilenceMatchModel_136 (by decide) (by decide +kernel) rfl (by decide) (by decide) hl.1 (by show 1 + 0 ≤ 8; decide) d64 ?_
        have hik : i.toInt.toNat = k := by omega
        rw [hik]
        have hnx : (i + Int32.ofInt 1).toInt = ((k + 1 : Nat) : Int) := by
          rw [Int32.toInt_add, hi, show (Int32.ofInt 1).toInt = 1 from rfl, k32_bm (by show (-2147483648 : Int) ≤ _; omega) (by show _ ≤ (2147483647 : Int); omega)]
          omega
        have hdr : (is_w j).drop k = ((s_byt.getD j []).getD k 0).toInt :: (is_w j).drop (k + 1) := is_drop (by omega)
        have hkb : kmt V Vt (is_w j) = (decide (kb = (s_byt.getD j []).getD k 0) && kmb Vt (k9.toInt.toNat + (k + 1)) ((is_w j).drop (k + 1))) := by
          rw [hg, hdr, Bool.true_and]
          conv => lhs; unfold kmb
          rw [eb]
          simp only [Int32.toInt_inj]
          rfl
        refine lv_icmp_ne (tgt := 74) hexec hb d67 rfl (fun hne => ?_) (fun heq => ?_)
        · refine lv_iconst (v := 0) hexec hb d74 rfl ?_
          refine lv_istore_n hexec hb d75 rfl hl (by decide) rfl (fun ls1 hl1 => ?_)
          refine lv_iinc (k := 3) hexec hb d76 hl1 rfl rfl (by decide) rfl (fun ls2 hl2 => ?_)
          refine lv_goto (tgt := 39) hexec hb d79 rfl ?_
          exact ih (k + 1) (i + Int32.ofInt 1) false H locs ls2 (by omega) hnx (by rw [hkb, decide_eq_false hne]) (fun h => by cases h) hm (lv_sub hl2 [2, 3, 1, 0] rfl)
        · have heq : kb = (s_byt.getD j []).getD k 0 := heq
          refine lv_iconst (v := 1) hexec hb d70 rfl ?_
          refine lv_goto (tgt := 75) hexec hb d71 rfl ?_
          refine lv_istore_n hexec hb d75 rfl hl (by decide) rfl (fun ls1 hl1 => ?_)
          refine lv_iinc (k := 3) hexec hb d76 hl1 rfl rfl (by decide) rfl (fun ls2 hl2 => ?_)
          refine lv_goto (tgt := 39) hexec hb d79 rfl ?_
          exact ih (k + 1) (i + Int32.ofInt 1) true H locs ls2 (by omega) hnx (by rw [hkb, decide_eq_true heq]) (fun _ => hpre) hm (lv_sub hl2 [2, 3, 1, 0] rfl)
  have hm0 : kmov D cA k_tt Ty lo [] s.heap s.heap [] := ⟨hG, kfr_rfl, kkp_rfl, fun q hq => by cases hq⟩
  have go36 : ∀ (g : Bool) (H : Heap) (locs : List Loc) (ls : Array Slot), kmt V Vt (is_w j) = (g && kmb Vt k9.toInt.toNat (is_w j)) → (g = true → k8.toInt - k9.toInt = (s_len.getD j 0 : Int)) → kmov D cA k_tt Ty lo [] s.heap H locs → lv_has ls 4 [(0, .ref r), (1, .ref (aS j))] → W p l e (krm 8) s m args below meth c H locs 0 0 Q (F0 m 36 ls [.int (if g = true then 1 else 0)]) := by
    intro g H locs ls hg hpre hm hl
    refine lv_istore_n hexec hb d36 rfl hl (by decide) rfl (fun ls1 hl1 => ?_)
    refine lv_iconst (v := 0) hexec hb d37 rfl ?_
    refine lv_istore_n hexec hb d38 rfl hl1 (by decide) rfl (fun ls2 hl2 => ?_)
    exact loop (s_len.getD j 0) 0 0 g H locs ls2 (by omega) rfl (by rw [hg]; rfl) hpre hm (lv_sub hl2 [2, 3, 1, 0] rfl)
  have go35 : ∀ (H : Heap) (locs : List Loc) (ls : Array Slot), kmt V Vt (is_w j) = false → kmov D cA k_tt Ty lo [] s.heap H locs → lv_has ls 4 [(0, .ref r), (1, .ref (aS j))] → W p l e (krm 8) s m args below meth c H locs 0 0 Q (F0 m 35 ls []) := by
    intro H locs ls hg hm hl
    refine lv_iconst (v := 0) hexec hb d35 rfl ?_
    exact go36 false H locs ls hg (fun h => by cases h) hm hl
  refine lv_aload_n hexec hb d0 rfl (lv_at hlv 0 rfl) ?_
  by_cases hz : k12.toInt = 0
  · have s1 : kst D cA k_tt Ty [] [r] is_Sg s.heap [] [.ref r] := ⟨⟨rfl, fun k q z hq => by cases hq⟩, (fun g hg => by cases hg), ⟨rfl, fun k t a hk ha => by
          match k, hk, ha with
          | 0, hk, ha => cases hk; cases ha; exact hr
          | k + 1, hk, ha => cases hk⟩, trivial, ⟨⟨r, rfl, rfl⟩, trivial⟩, (fun g hg => by
          obtain rfl : g = (0, kcst 12, .inl (kcst 0)) := List.mem_singleton.mp hg
          exact kfok_mk r9 ⟨r, 36, kt_36, V, 12, rfl, hr, kt36, hc, kcst_ev, by decide, ⟨k12, e12, by rw [hz]; exact kcst_ev⟩⟩)⟩
    refine kinv_ok (wr := []) (lv := []) hexec hb hml rfl ⟨rfl, rfl⟩ hown hts r1 r4 hK r7 r8 hXs r9 hm0.1 hm0.2.1 r11 s1 ⟨hlv.1, hlv.2.1, fun q hq => by cases hq⟩ d1 is_ig (fun S' hS' x u st' H' L' g1 g2 g3 g4 g5 => ?_)
    have hall := List.all_eq_true.mp is_ag S' hS'
    have hstk := g5.2.2.2.2.1
    split at hall
    case h_2 => cases hall
    rename_i fv hfv
    rw [hfv] at hstk
    match st', hstk with
    | [], hstk => exact hstk.elim
    | _ :: _ :: _, hstk => exact hstk.2.elim
    | [_], ⟨⟨nv, rfl, hnv⟩, _⟩ =>
    rw [kLeq_eq hall] at hnv
    have hnv : nv = 1 := Int32.toInt_inj.mp (Option.some.inj (kcst_ev.symm.trans hnv)).symm
    subst hnv
    have hm' : kmov D cA k_tt Ty lo [] s.heap H' ([] ++ L') := kmov_step hm0 g1 g2 g3 g4
    refine lv_if_eq (tgt := 35) hexec hb d4 rfl (fun hz => absurd hz (by decide)) (fun _ => ?_)
    obtain ⟨W10, w10, x10⟩ := at_ H' _ 10 (by decide) hm'
    obtain ⟨W8, w8, x8⟩ := at_ H' _ 8 (by decide) hm'
    obtain ⟨W9, w9, x9⟩ := at_ H' _ 9 (by decide) hm'
    refine lv_aload_n hexec hb d7 rfl (lv_at hlv 0 rfl) ?_
    refine h_get (T := kt_36) (idx := 103) (j := 10) (tc := 0) hexec hb hts k_clok hown hK wf_SilenceMatchModel (by decide) rfl (by decide) w10 d8 ?_
    rw [x10, e10]
    refine lv_iconst (v := 1) hexec hb d11 rfl ?_
    refine lv_icmp_ne (tgt := 35) hexec hb d12 rfl (fun hne => go35 H' _ ls (by
      rw [hkm, decide_eq_false (fun hh => hne (Int32.toInt_inj.mp hh.2.1))]
      rfl) hm' hlv) (fun heq => ?_)
    have heq : k10 = 1 := heq
    refine lv_aload_n hexec hb d15 rfl (lv_at hlv 0 rfl) ?_
    refine h_get (T := kt_36) (idx := 93) (j := 8) (tc := 0) hexec hb hts k_clok hown hK wf_SilenceMatchModel (by decide) rfl (by decide) w8 d16 ?_
    rw [x8, e8]
    refine lv_aload_n hexec hb d19 rfl (lv_at hlv 0 rfl) ?_
    refine h_get (T := kt_36) (idx := 100) (j := 9) (tc := 0) hexec hb hts k_clok hown hK wf_SilenceMatchModel (by decide) rfl (by decide) w9 d20 ?_
    rw [x9, e9]
    refine lv_isub hexec hb d23 ?_
    have hsub : (k8 - k9).toInt = k8.toInt - k9.toInt := by
      rw [Int32.toInt_sub, k32_bm (by show (-2147483648 : Int) ≤ _; omega) (by show _ ≤ (2147483647 : Int); omega)]
    refine lv_aload_n hexec hb d24 rfl (lv_at hlv 1 rfl) ?_
    refine s_callV (As := []) (n := 0) (d' := 1) hj hexec hb hml hown hts hXs hm'.2.1.2 (sm_length hj) sw_length ss_length sl_SilenceMatchModel_131 (by decide) (by decide +kernel) rfl (by decide) (by decide) hlv.1 (by show 1 + 0 ≤ 8; decide) d25 ?_
    refine lv_icmp_ne (tgt := 35) hexec hb d28 rfl (fun hne => go35 H' _ ls (by
      rw [hkm, decide_eq_false (fun hh => hne (Int32.toInt_inj.mp (by rw [hsub, hlen]; exact hh.2.2.1)))]
      rfl) hm' hlv) (fun heq2 => ?_)
    have heq2 : k8 - k9 = Int32.ofNat (s_len.getD j 0) := heq2
    have hpre : k8.toInt - k9.toInt = (s_len.getD j 0 : Int) := by rw [← hsub, heq2, hlen]
    refine lv_iconst (v := 1) hexec hb d31 rfl ?_
    refine lv_goto (tgt := 36) hexec hb d32 rfl ?_
    exact go36 true H' _ ls (by
      rw [hkm, decide_eq_true ⟨hz, by rw [heq]; rfl, hpre, b9, c8⟩]) (fun _ => hpre) hm' hlv
  · have s1 : kst D cA k_tt Ty [k12.toInt] [r] is_Sn s.heap [] [.ref r] := ⟨⟨rfl, fun k q z hq hz => by
          match k, hq, hz with
          | 0, hq, hz => cases hq; cases hz; exact ⟨by show (1 : Int) ≤ _; omega, c12⟩
          | k + 1, hq, hz => cases hq⟩, (fun g hg => by cases hg), ⟨rfl, fun k t a hk ha => by
          match k, hk, ha with
          | 0, hk, ha => cases hk; cases ha; exact hr
          | k + 1, hk, ha => cases hk⟩, trivial, ⟨⟨r, rfl, rfl⟩, trivial⟩, (fun g hg => by
          obtain rfl : g = (0, kcst 12, .inl (ksym 0)) := List.mem_singleton.mp hg
          exact kfok_mk r9 ⟨r, 36, kt_36, V, 12, rfl, hr, kt36, hc, kcst_ev, by decide, ⟨k12, e12, ksym_ev rfl⟩⟩)⟩
    refine kinv_ok (wr := []) (lv := []) hexec hb hml rfl ⟨rfl, rfl⟩ hown hts r1 r4 hK r7 r8 hXs r9 hm0.1 hm0.2.1 r11 s1 ⟨hlv.1, hlv.2.1, fun q hq => by cases hq⟩ d1 is_in (fun S' hS' x u st' H' L' g1 g2 g3 g4 g5 => ?_)
    have hall := List.all_eq_true.mp is_an S' hS'
    have hstk := g5.2.2.2.2.1
    split at hall
    case h_2 => cases hall
    rename_i fv hfv
    rw [hfv] at hstk
    match st', hstk with
    | [], hstk => exact hstk.elim
    | _ :: _ :: _, hstk => exact hstk.2.elim
    | [_], ⟨⟨nv, rfl, hnv⟩, _⟩ =>
    rw [kLeq_eq hall] at hnv
    have hnv : nv = 0 := Int32.toInt_inj.mp (Option.some.inj (kcst_ev.symm.trans hnv)).symm
    subst hnv
    have hm' : kmov D cA k_tt Ty lo [] s.heap H' ([] ++ L') := kmov_step hm0 g1 g2 g3 g4
    refine lv_if_eq (tgt := 35) hexec hb d4 rfl (fun _ => ?_) (fun hn => absurd rfl hn)
    exact go35 H' _ ls (by rw [hkm, decide_eq_false (fun hh => hz hh.1)]; rfl) hm' hlv
def is_e1 : kS := ([], [36, 1001], [(2, .inl (kcst 1))], [], [], [])
theorem is_e1_ok : kexec (kEof k_tt k_aty k_ct ow_SilenceMatchModel 4 (some .boolean) hc_isw) (cd_X10_is, [], [], []) none 10 false ((kdrop 82 cd_X10_is).getD []) is_e1 = true := by decide +kernel
def is_e0 : kS := ([], [36, 1001], [(2, .inl (kcst 0))], [], [], [])
theorem is_e0_ok : kexec (kEof k_tt k_aty k_ct ow_SilenceMatchModel 4 (some .boolean) hc_isw) (cd_X10_is, [], [], []) none 10 false ((kdrop 82 cd_X10_is).getD []) is_e0 = true := by decide +kernel
set_option maxHeartbeats 4000000 in
theorem gh_isw (hX : kXok X lo) (hT : kTyp k_tt Ty) (hS : ∀ (j : Nat) (q : String × Nat × String), k_sk[j]? = some q → Ty (aS j) (ksn j)) (hXe : X = sX aS adV lo) (hTS : ∀ a t, 1000 ≤ t → Ty a t → ∃ j, j < 34 ∧ a = aS j ∧ t = ksn j) : kGo l k_cl k_aty k_ns k_sk k_mw D cA aS k_tt Ty lo X k_ct hc_isw := fun h => by
  subst hXe
  have hR := kRest_of (l := l) (D := D) (cA := cA) (aS := aS) wc_SilenceMatchModel wf_SilenceMatchModel wm_SilenceMatchModel k_clok k_tok k_nsn hX hT hS h
  refine khand (y := ⟨"SilenceMatchModel", "is", "(Ljava/lang/String;)Z"⟩) (by decide +kernel) rfl (fun p e s m args below meth c hcx zs as lv ls hs hlv hG => ?_)
  have hP : hc_isw.2.1.1.length = zs.length := hs.1.1.symm
  have hP2 : hc_isw.2.1.2.1.length = as.length := hs.2.2.1.1.symm
  have hrt0 := hs.2.2.1
  have hloc := hs.2.2.2.1
  have hfa := hs.2.2.2.2.2
  match zs, hP with
  | [], hP =>
  match as, hP2, hrt0 with
  | [r, q], hP2, hrt0 =>
  have hr : Ty r 36 := hrt0.2 0 _ r rfl rfl
  have hq : Ty q 1001 := hrt0.2 1 _ q rfl rfl
  obtain ⟨j, hj, rfl, -⟩ := hTS q 1001 (by decide) hq
  match lv, hloc with
  | [(_, _), (_, _)], ⟨rfl, ⟨r', rfl, er⟩, rfl, ⟨q', rfl, eq⟩, _⟩ =>
  have er : r = r' := Option.some.inj er
  have eq : aS j = q' := Option.some.inj eq
  subst er; subst eq
  obtain ⟨-, V, hc, hv⟩ := hG.1 r 36 _ hr kt36
  obtain ⟨b, e4, t4⟩ := hv.1 (4, 1, 1, .inr (.inr 40)) (List.mem_of_getElem? (i := 4) rfl) 0 (by decide)
  obtain ⟨-, Vt, hct, -⟩ := hG.1 b 40 _ t4 kt40
  refine is_core hcx hR hj hr hG hc e4 t4 hct hlv (fun H locs ls' hm hl => ?_)
  by_cases hk : kmt V Vt (is_w j) = true
  · rw [if_pos hk] at hl
    exact kfrom (C := hc_isw) (cal := []) hcx hR hP hP2 dc_X10_is (cur := (kdrop 82 cd_X10_is).getD []) rfl is_e1_ok (x := []) (u := []) (lv := [(2, .int 1)]) ⟨⟨rfl, fun k q z hq => by cases hq⟩, (fun g hg => by cases hg), hrt0, ⟨rfl, ⟨_, rfl, kcst_ev⟩, trivial⟩, trivial, (fun g hg => by cases hg)⟩ hl hm
  · rw [if_neg hk] at hl
    exact kfrom (C := hc_isw) (cal := []) hcx hR hP hP2 dc_X10_is (cur := (kdrop 82 cd_X10_is).getD []) rfl is_e0_ok (x := []) (u := []) (lv := [(2, .int 0)]) ⟨⟨rfl, fun k q z hq => by cases hq⟩, (fun g hg => by cases hg), hrt0, ⟨rfl, ⟨_, rfl, kcst_ev⟩, trivial⟩, trivial, (fun g hg => by cases hg)⟩ hl hm
def is_y1 : kS := ([(1, 1)], [36, 1023], [(2, .inl (kcst 1))], [], [], [])
theorem is_y1_ok : kexec (kEof k_tt k_aty k_ct ow_SilenceMatchModel 4 (some .boolean) hc_is1) (cd_X10_is, [], [], []) none 10 false ((kdrop 82 cd_X10_is).getD []) is_y1 = true := by decide +kernel
def is_l1 : kS := ([(0, 0)], [36, 1023], [(2, .inl (kcst 0))], [], [], [])
theorem is_l1_ok : kexec (kEof k_tt k_aty k_ct ow_SilenceMatchModel 4 (some .boolean) hc_is1) (cd_X10_is, [], [], []) none 10 false ((kdrop 82 cd_X10_is).getD []) is_l1 = true := by decide +kernel
def is_g1 : kS := ([(2, 4)], [36, 1023], [(2, .inl (kcst 0))], [], [], [])
theorem is_g1_ok : kexec (kEof k_tt k_aty k_ct ow_SilenceMatchModel 4 (some .boolean) hc_is1) (cd_X10_is, [], [], []) none 10 false ((kdrop 82 cd_X10_is).getD []) is_g1 = true := by decide +kernel
set_option maxHeartbeats 4000000 in
theorem gh_is1 (hX : kXok X lo) (hT : kTyp k_tt Ty) (hS : ∀ (j : Nat) (q : String × Nat × String), k_sk[j]? = some q → Ty (aS j) (ksn j)) (hXe : X = sX aS adV lo) (hTS : ∀ a t, 1000 ≤ t → Ty a t → ∃ j, j < 34 ∧ a = aS j ∧ t = ksn j) : kGo l k_cl k_aty k_ns k_sk k_mw D cA aS k_tt Ty lo X k_ct hc_is1 := fun h => by
  subst hXe
  have hR := kRest_of (l := l) (D := D) (cA := cA) (aS := aS) wc_SilenceMatchModel wf_SilenceMatchModel wm_SilenceMatchModel k_clok k_tok k_nsn hX hT hS h
  refine khand (y := ⟨"SilenceMatchModel", "is", "(Ljava/lang/String;)Z"⟩) (by decide +kernel) rfl (fun p e s m args below meth c hcx zs as lv ls hs hlv hG => ?_)
  have hP : hc_is1.2.1.1.length = zs.length := hs.1.1.symm
  have hP2 : hc_is1.2.1.2.1.length = as.length := hs.2.2.1.1.symm
  have hrt0 := hs.2.2.1
  have hloc := hs.2.2.2.1
  have hfa := hs.2.2.2.2.2
  match zs, hP, hfa with
  | [z], hP, hfa =>
  match as, hP2, hrt0, hfa with
  | [r, q], hP2, hrt0, hfa =>
  have hr : Ty r 36 := hrt0.2 0 _ r rfl rfl
  have hq : Ty q 1023 := hrt0.2 1 _ q rfl rfl
  obtain ⟨j, hj, rfl, ej⟩ := hTS q 1023 (by decide) hq
  obtain rfl : j = 23 := (show ∀ j, j < 34 → 1023 = ksn j → j = 23 by decide) j hj ej
  match lv, hloc with
  | [(_, _), (_, _)], ⟨rfl, ⟨r', rfl, er⟩, rfl, ⟨q', rfl, eq⟩, _⟩ =>
  have er : r = r' := Option.some.inj er
  have eq : aS 23 = q' := Option.some.inj eq
  subst er; subst eq
  have hg0 : kfokG D cA k_tt Ty [z] [r, aS 23] s.heap (0, ([], 5000), .inl ([(0, 1)], 0)) := hfa _ (List.mem_of_getElem? (i := 0) rfl)
  obtain ⟨r', b, T, Tt, V, Vt, f, g1, g2, g3, g4, g5, g6, g7, g8, g9, g10⟩ := hg0
  obtain rfl : r = r' := Option.some.inj g1
  obtain rfl : kt_36 = T := Option.some.inj (kt36.symm.trans g3)
  obtain rfl : kt_40 = Tt := Option.some.inj (kt40.symm.trans g7)
  have g9 : Sum.inl (([(0, 1)], 0) : kL) = (Sum.inl f : kV) := g9
  injection g9 with g9
  subst g9
  have hz : z = kwhich V Vt := by
    have e : kev [z] ([(0, 1)], 0) = some z := ksym_ev rfl
    exact Option.some.inj (e.symm.trans g10)
  have hzi := kwhich_in V Vt
  have hw : (is_w 23) = kw1 := by decide +kernel
  refine is_core hcx hR hj hr hG g4 g5 g6 g8 hlv (fun H locs ls' hm hl => ?_)
  rw [hw] at hl
  by_cases hk : kmt V Vt kw1 = true
  · rw [if_pos hk] at hl
    have hz1 : z = 1 := by rw [hz]; exact is_w1.mp hk
    exact kfrom (C := hc_is1) (cal := []) hcx hR hP hP2 dc_X10_is (cur := (kdrop 82 cd_X10_is).getD []) rfl is_y1_ok (x := []) (u := []) (lv := [(2, .int 1)]) ⟨⟨rfl, fun k q w hq hw => by
          match k, hq, hw with
          | 0, hq, hw => cases hq; cases hw; exact ⟨by show (1 : Int) ≤ _; omega, by show _ ≤ (1 : Int); omega⟩
          | k + 1, hq, hw => cases hq⟩, (fun g hg => by cases hg), hrt0, ⟨rfl, ⟨_, rfl, kcst_ev⟩, trivial⟩, trivial, (fun g hg => by cases hg)⟩ hl hm
  · rw [if_neg hk] at hl
    have hz1 : ¬ z = 1 := fun e => hk (is_w1.mpr (by rw [← hz]; exact e))
    by_cases hlt : z < 1
    · exact kfrom (C := hc_is1) (cal := []) hcx hR hP hP2 dc_X10_is (cur := (kdrop 82 cd_X10_is).getD []) rfl is_l1_ok (x := []) (u := []) (lv := [(2, .int 0)]) ⟨⟨rfl, fun k q w hq hw => by
          match k, hq, hw with
          | 0, hq, hw => cases hq; cases hw; exact ⟨by show (0 : Int) ≤ _; omega, by show _ ≤ (0 : Int); omega⟩
          | k + 1, hq, hw => cases hq⟩, (fun g hg => by cases hg), hrt0, ⟨rfl, ⟨_, rfl, kcst_ev⟩, trivial⟩, trivial, (fun g hg => by cases hg)⟩ hl hm
    · exact kfrom (C := hc_is1) (cal := []) hcx hR hP hP2 dc_X10_is (cur := (kdrop 82 cd_X10_is).getD []) rfl is_g1_ok (x := []) (u := []) (lv := [(2, .int 0)]) ⟨⟨rfl, fun k q w hq hw => by
          match k, hq, hw with
          | 0, hq, hw => cases hq; cases hw; exact ⟨by show (2 : Int) ≤ _; omega, by show _ ≤ (4 : Int); omega⟩
          | k + 1, hq, hw => cases hq⟩, (fun g hg => by cases hg), hrt0, ⟨rfl, ⟨_, rfl, kcst_ev⟩, trivial⟩, trivial, (fun g hg => by cases hg)⟩ hl hm
def is_y2 : kS := ([(2, 2)], [36, 1024], [(2, .inl (kcst 1))], [], [], [])
theorem is_y2_ok : kexec (kEof k_tt k_aty k_ct ow_SilenceMatchModel 4 (some .boolean) hc_is2) (cd_X10_is, [], [], []) none 10 false ((kdrop 82 cd_X10_is).getD []) is_y2 = true := by decide +kernel
def is_l2 : kS := ([(0, 1)], [36, 1024], [(2, .inl (kcst 0))], [], [], [])
theorem is_l2_ok : kexec (kEof k_tt k_aty k_ct ow_SilenceMatchModel 4 (some .boolean) hc_is2) (cd_X10_is, [], [], []) none 10 false ((kdrop 82 cd_X10_is).getD []) is_l2 = true := by decide +kernel
def is_g2 : kS := ([(3, 4)], [36, 1024], [(2, .inl (kcst 0))], [], [], [])
theorem is_g2_ok : kexec (kEof k_tt k_aty k_ct ow_SilenceMatchModel 4 (some .boolean) hc_is2) (cd_X10_is, [], [], []) none 10 false ((kdrop 82 cd_X10_is).getD []) is_g2 = true := by decide +kernel
set_option maxHeartbeats 4000000 in
theorem gh_is2 (hX : kXok X lo) (hT : kTyp k_tt Ty) (hS : ∀ (j : Nat) (q : String × Nat × String), k_sk[j]? = some q → Ty (aS j) (ksn j)) (hXe : X = sX aS adV lo) (hTS : ∀ a t, 1000 ≤ t → Ty a t → ∃ j, j < 34 ∧ a = aS j ∧ t = ksn j) : kGo l k_cl k_aty k_ns k_sk k_mw D cA aS k_tt Ty lo X k_ct hc_is2 := fun h => by
  subst hXe
  have hR := kRest_of (l := l) (D := D) (cA := cA) (aS := aS) wc_SilenceMatchModel wf_SilenceMatchModel wm_SilenceMatchModel k_clok k_tok k_nsn hX hT hS h
  refine khand (y := ⟨"SilenceMatchModel", "is", "(Ljava/lang/String;)Z"⟩) (by decide +kernel) rfl (fun p e s m args below meth c hcx zs as lv ls hs hlv hG => ?_)
  have hP : hc_is2.2.1.1.length = zs.length := hs.1.1.symm
  have hP2 : hc_is2.2.1.2.1.length = as.length := hs.2.2.1.1.symm
  have hrt0 := hs.2.2.1
  have hloc := hs.2.2.2.1
  have hfa := hs.2.2.2.2.2
  match zs, hP, hfa with
  | [z], hP, hfa =>
  match as, hP2, hrt0, hfa with
  | [r, q], hP2, hrt0, hfa =>
  have hr : Ty r 36 := hrt0.2 0 _ r rfl rfl
  have hq : Ty q 1024 := hrt0.2 1 _ q rfl rfl
  obtain ⟨j, hj, rfl, ej⟩ := hTS q 1024 (by decide) hq
  obtain rfl : j = 24 := (show ∀ j, j < 34 → 1024 = ksn j → j = 24 by decide) j hj ej
  match lv, hloc with
  | [(_, _), (_, _)], ⟨rfl, ⟨r', rfl, er⟩, rfl, ⟨q', rfl, eq⟩, _⟩ =>
  have er : r = r' := Option.some.inj er
  have eq : aS 24 = q' := Option.some.inj eq
  subst er; subst eq
  have hg0 : kfokG D cA k_tt Ty [z] [r, aS 24] s.heap (0, ([], 5000), .inl ([(0, 1)], 0)) := hfa _ (List.mem_of_getElem? (i := 0) rfl)
  obtain ⟨r', b, T, Tt, V, Vt, f, g1, g2, g3, g4, g5, g6, g7, g8, g9, g10⟩ := hg0
  obtain rfl : r = r' := Option.some.inj g1
  obtain rfl : kt_36 = T := Option.some.inj (kt36.symm.trans g3)
  obtain rfl : kt_40 = Tt := Option.some.inj (kt40.symm.trans g7)
  have g9 : Sum.inl (([(0, 1)], 0) : kL) = (Sum.inl f : kV) := g9
  injection g9 with g9
  subst g9
  have hz : z = kwhich V Vt := by
    have e : kev [z] ([(0, 1)], 0) = some z := ksym_ev rfl
    exact Option.some.inj (e.symm.trans g10)
  have hzi := kwhich_in V Vt
  have hw : (is_w 24) = kw2 := by decide +kernel
  refine is_core hcx hR hj hr hG g4 g5 g6 g8 hlv (fun H locs ls' hm hl => ?_)
  rw [hw] at hl
  by_cases hk : kmt V Vt kw2 = true
  · rw [if_pos hk] at hl
    have hz1 : z = 2 := by rw [hz]; exact is_w2.mp hk
    exact kfrom (C := hc_is2) (cal := []) hcx hR hP hP2 dc_X10_is (cur := (kdrop 82 cd_X10_is).getD []) rfl is_y2_ok (x := []) (u := []) (lv := [(2, .int 1)]) ⟨⟨rfl, fun k q w hq hw => by
          match k, hq, hw with
          | 0, hq, hw => cases hq; cases hw; exact ⟨by show (2 : Int) ≤ _; omega, by show _ ≤ (2 : Int); omega⟩
          | k + 1, hq, hw => cases hq⟩, (fun g hg => by cases hg), hrt0, ⟨rfl, ⟨_, rfl, kcst_ev⟩, trivial⟩, trivial, (fun g hg => by cases hg)⟩ hl hm
  · rw [if_neg hk] at hl
    have hz1 : ¬ z = 2 := fun e => hk (is_w2.mpr (by rw [← hz]; exact e))
    by_cases hlt : z < 2
    · exact kfrom (C := hc_is2) (cal := []) hcx hR hP hP2 dc_X10_is (cur := (kdrop 82 cd_X10_is).getD []) rfl is_l2_ok (x := []) (u := []) (lv := [(2, .int 0)]) ⟨⟨rfl, fun k q w hq hw => by
          match k, hq, hw with
          | 0, hq, hw => cases hq; cases hw; exact ⟨by show (0 : Int) ≤ _; omega, by show _ ≤ (1 : Int); omega⟩
          | k + 1, hq, hw => cases hq⟩, (fun g hg => by cases hg), hrt0, ⟨rfl, ⟨_, rfl, kcst_ev⟩, trivial⟩, trivial, (fun g hg => by cases hg)⟩ hl hm
    · exact kfrom (C := hc_is2) (cal := []) hcx hR hP hP2 dc_X10_is (cur := (kdrop 82 cd_X10_is).getD []) rfl is_g2_ok (x := []) (u := []) (lv := [(2, .int 0)]) ⟨⟨rfl, fun k q w hq hw => by
          match k, hq, hw with
          | 0, hq, hw => cases hq; cases hw; exact ⟨by show (3 : Int) ≤ _; omega, by show _ ≤ (4 : Int); omega⟩
          | k + 1, hq, hw => cases hq⟩, (fun g hg => by cases hg), hrt0, ⟨rfl, ⟨_, rfl, kcst_ev⟩, trivial⟩, trivial, (fun g hg => by cases hg)⟩ hl hm
def is_y3 : kS := ([(3, 3)], [36, 1025], [(2, .inl (kcst 1))], [], [], [])
theorem is_y3_ok : kexec (kEof k_tt k_aty k_ct ow_SilenceMatchModel 4 (some .boolean) hc_is3) (cd_X10_is, [], [], []) none 10 false ((kdrop 82 cd_X10_is).getD []) is_y3 = true := by decide +kernel
def is_l3 : kS := ([(0, 2)], [36, 1025], [(2, .inl (kcst 0))], [], [], [])
theorem is_l3_ok : kexec (kEof k_tt k_aty k_ct ow_SilenceMatchModel 4 (some .boolean) hc_is3) (cd_X10_is, [], [], []) none 10 false ((kdrop 82 cd_X10_is).getD []) is_l3 = true := by decide +kernel
def is_g3 : kS := ([(4, 4)], [36, 1025], [(2, .inl (kcst 0))], [], [], [])
theorem is_g3_ok : kexec (kEof k_tt k_aty k_ct ow_SilenceMatchModel 4 (some .boolean) hc_is3) (cd_X10_is, [], [], []) none 10 false ((kdrop 82 cd_X10_is).getD []) is_g3 = true := by decide +kernel
set_option maxHeartbeats 4000000 in
theorem gh_is3 (hX : kXok X lo) (hT : kTyp k_tt Ty) (hS : ∀ (j : Nat) (q : String × Nat × String), k_sk[j]? = some q → Ty (aS j) (ksn j)) (hXe : X = sX aS adV lo) (hTS : ∀ a t, 1000 ≤ t → Ty a t → ∃ j, j < 34 ∧ a = aS j ∧ t = ksn j) : kGo l k_cl k_aty k_ns k_sk k_mw D cA aS k_tt Ty lo X k_ct hc_is3 := fun h => by
  subst hXe
  have hR := kRest_of (l := l) (D := D) (cA := cA) (aS := aS) wc_SilenceMatchModel wf_SilenceMatchModel wm_SilenceMatchModel k_clok k_tok k_nsn hX hT hS h
  refine khand (y := ⟨"SilenceMatchModel", "is", "(Ljava/lang/String;)Z"⟩) (by decide +kernel) rfl (fun p e s m args below meth c hcx zs as lv ls hs hlv hG => ?_)
  have hP : hc_is3.2.1.1.length = zs.length := hs.1.1.symm
  have hP2 : hc_is3.2.1.2.1.length = as.length := hs.2.2.1.1.symm
  have hrt0 := hs.2.2.1
  have hloc := hs.2.2.2.1
  have hfa := hs.2.2.2.2.2
  match zs, hP, hfa with
  | [z], hP, hfa =>
  match as, hP2, hrt0, hfa with
  | [r, q], hP2, hrt0, hfa =>
  have hr : Ty r 36 := hrt0.2 0 _ r rfl rfl
  have hq : Ty q 1025 := hrt0.2 1 _ q rfl rfl
  obtain ⟨j, hj, rfl, ej⟩ := hTS q 1025 (by decide) hq
  obtain rfl : j = 25 := (show ∀ j, j < 34 → 1025 = ksn j → j = 25 by decide) j hj ej
  match lv, hloc with
  | [(_, _), (_, _)], ⟨rfl, ⟨r', rfl, er⟩, rfl, ⟨q', rfl, eq⟩, _⟩ =>
  have er : r = r' := Option.some.inj er
  have eq : aS 25 = q' := Option.some.inj eq
  subst er; subst eq
  have hg0 : kfokG D cA k_tt Ty [z] [r, aS 25] s.heap (0, ([], 5000), .inl ([(0, 1)], 0)) := hfa _ (List.mem_of_getElem? (i := 0) rfl)
  obtain ⟨r', b, T, Tt, V, Vt, f, g1, g2, g3, g4, g5, g6, g7, g8, g9, g10⟩ := hg0
  obtain rfl : r = r' := Option.some.inj g1
  obtain rfl : kt_36 = T := Option.some.inj (kt36.symm.trans g3)
  obtain rfl : kt_40 = Tt := Option.some.inj (kt40.symm.trans g7)
  have g9 : Sum.inl (([(0, 1)], 0) : kL) = (Sum.inl f : kV) := g9
  injection g9 with g9
  subst g9
  have hz : z = kwhich V Vt := by
    have e : kev [z] ([(0, 1)], 0) = some z := ksym_ev rfl
    exact Option.some.inj (e.symm.trans g10)
  have hzi := kwhich_in V Vt
  have hw : (is_w 25) = kw3 := by decide +kernel
  refine is_core hcx hR hj hr hG g4 g5 g6 g8 hlv (fun H locs ls' hm hl => ?_)
  rw [hw] at hl
  by_cases hk : kmt V Vt kw3 = true
  · rw [if_pos hk] at hl
    have hz1 : z = 3 := by rw [hz]; exact is_w3.mp hk
    exact kfrom (C := hc_is3) (cal := []) hcx hR hP hP2 dc_X10_is (cur := (kdrop 82 cd_X10_is).getD []) rfl is_y3_ok (x := []) (u := []) (lv := [(2, .int 1)]) ⟨⟨rfl, fun k q w hq hw => by
          match k, hq, hw with
          | 0, hq, hw => cases hq; cases hw; exact ⟨by show (3 : Int) ≤ _; omega, by show _ ≤ (3 : Int); omega⟩
          | k + 1, hq, hw => cases hq⟩, (fun g hg => by cases hg), hrt0, ⟨rfl, ⟨_, rfl, kcst_ev⟩, trivial⟩, trivial, (fun g hg => by cases hg)⟩ hl hm
  · rw [if_neg hk] at hl
    have hz1 : ¬ z = 3 := fun e => hk (is_w3.mpr (by rw [← hz]; exact e))
    by_cases hlt : z < 3
    · exact kfrom (C := hc_is3) (cal := []) hcx hR hP hP2 dc_X10_is (cur := (kdrop 82 cd_X10_is).getD []) rfl is_l3_ok (x := []) (u := []) (lv := [(2, .int 0)]) ⟨⟨rfl, fun k q w hq hw => by
          match k, hq, hw with
          | 0, hq, hw => cases hq; cases hw; exact ⟨by show (0 : Int) ≤ _; omega, by show _ ≤ (2 : Int); omega⟩
          | k + 1, hq, hw => cases hq⟩, (fun g hg => by cases hg), hrt0, ⟨rfl, ⟨_, rfl, kcst_ev⟩, trivial⟩, trivial, (fun g hg => by cases hg)⟩ hl hm
    · exact kfrom (C := hc_is3) (cal := []) hcx hR hP hP2 dc_X10_is (cur := (kdrop 82 cd_X10_is).getD []) rfl is_g3_ok (x := []) (u := []) (lv := [(2, .int 0)]) ⟨⟨rfl, fun k q w hq hw => by
          match k, hq, hw with
          | 0, hq, hw => cases hq; cases hw; exact ⟨by show (4 : Int) ≤ _; omega, by show _ ≤ (4 : Int); omega⟩
          | k + 1, hq, hw => cases hq⟩, (fun g hg => by cases hg), hrt0, ⟨rfl, ⟨_, rfl, kcst_ev⟩, trivial⟩, trivial, (fun g hg => by cases hg)⟩ hl hm
def is_y4 : kS := ([(4, 4)], [36, 1026], [(2, .inl (kcst 1))], [], [], [])
theorem is_y4_ok : kexec (kEof k_tt k_aty k_ct ow_SilenceMatchModel 4 (some .boolean) hc_is4) (cd_X10_is, [], [], []) none 10 false ((kdrop 82 cd_X10_is).getD []) is_y4 = true := by decide +kernel
def is_l4 : kS := ([(0, 3)], [36, 1026], [(2, .inl (kcst 0))], [], [], [])
theorem is_l4_ok : kexec (kEof k_tt k_aty k_ct ow_SilenceMatchModel 4 (some .boolean) hc_is4) (cd_X10_is, [], [], []) none 10 false ((kdrop 82 cd_X10_is).getD []) is_l4 = true := by decide +kernel
set_option maxHeartbeats 4000000 in
theorem gh_is4 (hX : kXok X lo) (hT : kTyp k_tt Ty) (hS : ∀ (j : Nat) (q : String × Nat × String), k_sk[j]? = some q → Ty (aS j) (ksn j)) (hXe : X = sX aS adV lo) (hTS : ∀ a t, 1000 ≤ t → Ty a t → ∃ j, j < 34 ∧ a = aS j ∧ t = ksn j) : kGo l k_cl k_aty k_ns k_sk k_mw D cA aS k_tt Ty lo X k_ct hc_is4 := fun h => by
  subst hXe
  have hR := kRest_of (l := l) (D := D) (cA := cA) (aS := aS) wc_SilenceMatchModel wf_SilenceMatchModel wm_SilenceMatchModel k_clok k_tok k_nsn hX hT hS h
  refine khand (y := ⟨"SilenceMatchModel", "is", "(Ljava/lang/String;)Z"⟩) (by decide +kernel) rfl (fun p e s m args below meth c hcx zs as lv ls hs hlv hG => ?_)
  have hP : hc_is4.2.1.1.length = zs.length := hs.1.1.symm
  have hP2 : hc_is4.2.1.2.1.length = as.length := hs.2.2.1.1.symm
  have hrt0 := hs.2.2.1
  have hloc := hs.2.2.2.1
  have hfa := hs.2.2.2.2.2
  match zs, hP, hfa with
  | [z], hP, hfa =>
  match as, hP2, hrt0, hfa with
  | [r, q], hP2, hrt0, hfa =>
  have hr : Ty r 36 := hrt0.2 0 _ r rfl rfl
  have hq : Ty q 1026 := hrt0.2 1 _ q rfl rfl
  obtain ⟨j, hj, rfl, ej⟩ := hTS q 1026 (by decide) hq
  obtain rfl : j = 26 := (show ∀ j, j < 34 → 1026 = ksn j → j = 26 by decide) j hj ej
  match lv, hloc with
  | [(_, _), (_, _)], ⟨rfl, ⟨r', rfl, er⟩, rfl, ⟨q', rfl, eq⟩, _⟩ =>
  have er : r = r' := Option.some.inj er
  have eq : aS 26 = q' := Option.some.inj eq
  subst er; subst eq
  have hg0 : kfokG D cA k_tt Ty [z] [r, aS 26] s.heap (0, ([], 5000), .inl ([(0, 1)], 0)) := hfa _ (List.mem_of_getElem? (i := 0) rfl)
  obtain ⟨r', b, T, Tt, V, Vt, f, g1, g2, g3, g4, g5, g6, g7, g8, g9, g10⟩ := hg0
  obtain rfl : r = r' := Option.some.inj g1
  obtain rfl : kt_36 = T := Option.some.inj (kt36.symm.trans g3)
  obtain rfl : kt_40 = Tt := Option.some.inj (kt40.symm.trans g7)
  have g9 : Sum.inl (([(0, 1)], 0) : kL) = (Sum.inl f : kV) := g9
  injection g9 with g9
  subst g9
  have hz : z = kwhich V Vt := by
    have e : kev [z] ([(0, 1)], 0) = some z := ksym_ev rfl
    exact Option.some.inj (e.symm.trans g10)
  have hzi := kwhich_in V Vt
  have hw : (is_w 26) = kw4 := by decide +kernel
  refine is_core hcx hR hj hr hG g4 g5 g6 g8 hlv (fun H locs ls' hm hl => ?_)
  rw [hw] at hl
  by_cases hk : kmt V Vt kw4 = true
  · rw [if_pos hk] at hl
    have hz1 : z = 4 := by rw [hz]; exact is_w4.mp hk
    exact kfrom (C := hc_is4) (cal := []) hcx hR hP hP2 dc_X10_is (cur := (kdrop 82 cd_X10_is).getD []) rfl is_y4_ok (x := []) (u := []) (lv := [(2, .int 1)]) ⟨⟨rfl, fun k q w hq hw => by
          match k, hq, hw with
          | 0, hq, hw => cases hq; cases hw; exact ⟨by show (4 : Int) ≤ _; omega, by show _ ≤ (4 : Int); omega⟩
          | k + 1, hq, hw => cases hq⟩, (fun g hg => by cases hg), hrt0, ⟨rfl, ⟨_, rfl, kcst_ev⟩, trivial⟩, trivial, (fun g hg => by cases hg)⟩ hl hm
  · rw [if_neg hk] at hl
    have hz1 : ¬ z = 4 := fun e => hk (is_w4.mpr (by rw [← hz]; exact e))
    exact kfrom (C := hc_is4) (cal := []) hcx hR hP hP2 dc_X10_is (cur := (kdrop 82 cd_X10_is).getD []) rfl is_l4_ok (x := []) (u := []) (lv := [(2, .int 0)]) ⟨⟨rfl, fun k q w hq hw => by
          match k, hq, hw with
          | 0, hq, hw => cases hq; cases hw; exact ⟨by show (0 : Int) ≤ _; omega, by show _ ≤ (3 : Int); omega⟩
          | k + 1, hq, hw => cases hq⟩, (fun g hg => by cases hg), hrt0, ⟨rfl, ⟨_, rfl, kcst_ev⟩, trivial⟩, trivial, (fun g hg => by cases hg)⟩ hl hm
end HIS
