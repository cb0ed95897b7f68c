theorem k_cd9 : ∀ j, j < 13 → cdok (kF9 j).2.2.1 = true := by decide +kernel
theorem k_cd10 : ∀ j, j < 38 → cdok (kF10 j).2.2.1 = true := by decide +kernel
set_option maxHeartbeats 4000000 in
set_option maxRecDepth 100000 in
theorem whole_start {p : Program} {e : Env} {s : State} {m : MethodId} {below : List Frame} {meth : Method} {c : Code} (l : Launch) {b L : Nat} {xs : Nat → Int32} (hL : L ≤ 3072) (C0 : lw_At p s m meth c b L xs) : W p l e room_1 s m #[Value.ref b] below meth c s.heap [] 0 0 (lw_Z below #[Value.ref b] s) (entryFrame m ([Value.ref b] : List Value).toArray 4) := by
  obtain ⟨hexec, hb, hrt, hml, hown, hts, hscr, hbl, hlk, hgv⟩ := C0
  obtain ⟨D, cA, tys, hKn⟩ := s_start l hts
  have hlg : ∀ w ∈ k_lg, w.before #[Value.ref b] s = true := fun w hw => hts w (List.mem_filter.mp hw).1
  have hlv := lv_entry [Value.ref b] (n := 4) (show 1 ≤ 4 by decide)
  rw [lg_entry_eq]
  generalize ((lg_sl [Value.ref b] ++ List.replicate (4 - (lg_sl [Value.ref b]).length) Slot.unset).toArray) = ls at hlv ⊢
  have hlv : lv_has ls 4 [(0, .ref b)] := hlv
  have hown : s.vm.findClass "SilenceMatchLaw" = some m.cls := hown
  generalize hn : s.heap.size = n at hbl
  have c0 : cHp D cA n s.heap [] s.heap := ⟨hn, fun _ _ => rfl, fun k c h => by simp at h⟩
  refine l_new (ci := 9) (N := 13) hexec hb hlg k_clok hown wl_7 (s_inst _ (List.mem_of_getElem? (i := 9) rfl)) wl_i9 hKn.1 rfl rfl (by decide) (by decide) k_cd9 c0 dl_0 (fun H1 c1 => ?_)
  refine lv_dup hexec hb dl_3 rfl ?_
  have c1 : cHp D cA n s.heap [cblank 9] H1 := c1
  refine l_ctor (C := ce_9) (k := 0) hexec hb hml hown hlg k_lg_good k_nest hKn ceo_9 ⟨by decide, by decide⟩ wl_9 (cctor_met k_base 3 9 [cblank 9] [(2, 0)] k_cs1 ce_9 rfl k_cs1_ok) c1 hlv.1 rfl (by show 1 ≤ 8; decide) (by decide) (by decide) dl_4 (fun H2 L2 c2 g2 => ?_)
  refine lv_astore_n hexec hb dl_7 rfl hlv (by decide) rfl (fun ls1 hlv1 => ?_)
  refine l_new (ci := 10) (N := 38) hexec hb hlg k_clok hown wl_10 (s_inst _ (List.mem_of_getElem? (i := 10) rfl)) wl_i10 hKn.1 rfl rfl (by decide) (by decide) k_cd10 c2 dl_8 (fun H3 c3 => ?_)
  have c3 : cHp D cA n s.heap (k_cs1 ++ [cblank 10]) H3 := c3
  rw [k_cs1_len]
  refine lv_dup hexec hb dl_11 rfl ?_
  refine l_ctor (C := ce_10) (k := 109) hexec hb hml hown hlg k_lg_good k_nest hKn ceo_10 ⟨by decide, by decide⟩ wl_12 (cctor_met k_base 3 10 (k_cs1 ++ [cblank 10]) [(2, 109)] k_cs2 ce_10 rfl k_cs2_ok) c3 hlv1.1 rfl (by show 1 ≤ 8; decide) (by decide) (by decide) dl_12 (fun H4 L4 c4 g4 => ?_)
  refine lv_astore_n hexec hb dl_15 rfl hlv1 (by decide) rfl (fun ls2 hlv2 => ?_)
  refine lv_iconst (v := 0) hexec hb dl_16 rfl ?_
  refine lv_istore_n hexec hb dl_17 rfl hlv2 (by decide) rfl (fun ls3 hlv3 => ?_)
  obtain ⟨aS, adV, hXs, hR⟩ := s_strs hn hts hgv
  have hlv3 : lv_has ls3 4 [(3, .int 0), (2, .ref (n + 109)), (1, .ref n), (0, .ref b)] := hlv3
  have hl : ∀ q ∈ ([] ++ L2) ++ L4, n ≤ q.base := fun q hq => (List.mem_append.mp hq).elim (fun h => (List.mem_append.mp h).elim (fun h => by cases h) (g2 q)) (g4 q)
  exact l_loop hexec hb hml hrt hlk ⟨by decide, by decide⟩ hown hlg (s_kK hts hKn hR) hXs (by omega) hn hbl hscr 512 0 0 ls3 H4 _ (by omega) rfl hlv3 (fun q hq => c4.2.1 q hq) (k_start c4) (lmd_start c4) (lrw_start c4) hl
