/-! BY HAND: how far -/
section HCOV2
variable {l : Launch} {D : va_G} {cA aS adV : Nat → Nat} {Ty : Nat → Nat → Prop} {lo : Nat}
set_option maxHeartbeats 4000000 in
theorem qm_farOf {r w : Nat} {w0 w1 i j : Int32} (h0 : ¬ w0 = 0) : hMet l D cA aS lo qy_farOf prog_12_method_33_code 3 (some .int) 1 [.ref r, .int i, .int j] (cP D cA r w w0 w1) (fun H v H' => ∃ y : Int32, v = some (.int y) ∧ H' = H ∧ (i = j → y = 0)) := by
  refine hmk (by decide +kernel) (show 3 ≤ 3 by decide) (fun p e s m below meth c ls hcx hP hlv => ?_)
  obtain ⟨hexec, hb, hml, hown, hts, hrt, hlk, hK, -⟩ := id hcx
  have hown : s.vm.findClass "SilenceMatchModel" = some m.cls := hown
  have dc := qd_farOf
  have d0 := dc _ (List.mem_of_getElem? (i := 0) rfl)
  have d1 := dc _ (List.mem_of_getElem? (i := 1) rfl)
  have d2 := dc _ (List.mem_of_getElem? (i := 2) rfl)
  have d5 := dc _ (List.mem_of_getElem? (i := 3) rfl)
  have d6 := dc _ (List.mem_of_getElem? (i := 4) rfl)
  have d7 := dc _ (List.mem_of_getElem? (i := 5) rfl)
  have d8 := dc _ (List.mem_of_getElem? (i := 6) rfl)
  have d9 := dc _ (List.mem_of_getElem? (i := 7) rfl)
  have d10 := dc _ (List.mem_of_getElem? (i := 8) rfl)
  have d13 := dc _ (List.mem_of_getElem? (i := 9) rfl)
  have d14 := dc _ (List.mem_of_getElem? (i := 10) rfl)
  have d15 := dc _ (List.mem_of_getElem? (i := 11) rfl)
  have d16 := dc _ (List.mem_of_getElem? (i := 12) rfl)
  have d17 := dc _ (List.mem_of_getElem? (i := 13) rfl)
  have d20 := dc _ (List.mem_of_getElem? (i := 14) rfl)
  have d21 := dc _ (List.mem_of_getElem? (i := 15) rfl)
  have d22 := dc _ (List.mem_of_getElem? (i := 16) rfl)
  have d25 := dc _ (List.mem_of_getElem? (i := 17) rfl)
  have d26 := dc _ (List.mem_of_getElem? (i := 18) rfl)
  have d27 := dc _ (List.mem_of_getElem? (i := 19) rfl)
  have d28 := dc _ (List.mem_of_getElem? (i := 20) rfl)
  have d29 := dc _ (List.mem_of_getElem? (i := 21) rfl)
  have d30 := dc _ (List.mem_of_getElem? (i := 22) rfl)
  have d33 := dc _ (List.mem_of_getElem? (i := 23) rfl)
  have d34 := dc _ (List.mem_of_getElem? (i := 24) rfl)
  have d35 := dc _ (List.mem_of_getElem? (i := 25) rfl)
  have d36 := dc _ (List.mem_of_getElem? (i := 26) rfl)
  have d37 := dc _ (List.mem_of_getElem? (i := 27) rfl)
  have d40 := dc _ (List.mem_of_getElem? (i := 28) rfl)
  have d41 := dc _ (List.mem_of_getElem? (i := 29) rfl)
  dsimp only at d0 d1 d2 d5 d6 d7 d8 d9 d10 d13 d14 d15 d16 d17 d20 d21 d22 d25 d26 d27 d28 d29 d30 d33 d34 d35 d36 d37 d40 d41
  obtain ⟨V, W', hc, e1, hw, f0, f1⟩ := hP
  refine lv_iload_n hexec hb d0 rfl (lv_at hlv 1 rfl) ?_
  refine lv_aload_n hexec hb d1 rfl (lv_at hlv 0 rfl) ?_
  refine h_get (T := kt_36) (idx := 9) (j := 1) (tc := 3) hexec hb hts k_clok hown hK wf_SilenceMatchModel (by decide) rfl (by decide) hc d2 ?_
  rw [e1]
  refine lv_iconst (v := 0) hexec hb d5 rfl ?_
  refine r_ald (T := kt_37) (ty := .int) (z := 0) hexec hb hK rfl rfl rfl rfl (by decide) hw d6 ?_
  rw [f0]
  refine lv_idiv hexec hb d7 h0 ?_
  refine lv_iload_n hexec hb d8 rfl (lv_at hlv 2 rfl) ?_
  refine lv_aload_n hexec hb d9 rfl (lv_at hlv 0 rfl) ?_
  refine h_get (T := kt_36) (idx := 9) (j := 1) (tc := 3) hexec hb hts k_clok hown hK wf_SilenceMatchModel (by decide) rfl (by decide) hc d10 ?_
  rw [e1]
  refine lv_iconst (v := 0) hexec hb d13 rfl ?_
  refine r_ald (T := kt_37) (ty := .int) (z := 0) hexec hb hK rfl rfl rfl rfl (by decide) hw d14 ?_
  rw [f0]
  refine lv_idiv hexec hb d15 h0 ?_
  refine lv_isub hexec hb d16 ?_
  refine h_callS (lo := lo) (As := [.int (i / w0 - j / w0)]) (n := 1) (d' := 0) (P := fun _ => True) hexec hb hml hown hts hK qm_abs trivial qw_abs qs_abs ql_215 (by decide) (by decide +kernel) rfl (by decide) (by decide) hlv.1 (by decide) d17 (fun v H' L hq hL => ?_)
  obtain ⟨y1, rfl, rfl, hy1⟩ := hq
  refine lv_iload_n hexec hb d20 rfl (lv_at hlv 1 rfl) ?_
  refine lv_aload_n hexec hb d21 rfl (lv_at hlv 0 rfl) ?_
  refine h_get (T := kt_36) (idx := 9) (j := 1) (tc := 3) hexec hb hts k_clok hown hK wf_SilenceMatchModel (by decide) rfl (by decide) hc d22 ?_
  rw [e1]
  refine lv_iconst (v := 0) hexec hb d25 rfl ?_
  refine r_ald (T := kt_37) (ty := .int) (z := 0) hexec hb hK rfl rfl rfl rfl (by decide) hw d26 ?_
  rw [f0]
  refine lv_irem hexec hb d27 h0 ?_
  refine lv_iload_n hexec hb d28 rfl (lv_at hlv 2 rfl) ?_
  refine lv_aload_n hexec hb d29 rfl (lv_at hlv 0 rfl) ?_
  refine h_get (T := kt_36) (idx := 9) (j := 1) (tc := 3) hexec hb hts k_clok hown hK wf_SilenceMatchModel (by decide) rfl (by decide) hc d30 ?_
  rw [e1]
  refine lv_iconst (v := 0) hexec hb d33 rfl ?_
  refine r_ald (T := kt_37) (ty := .int) (z := 0) hexec hb hK rfl rfl rfl rfl (by decide) hw d34 ?_
  rw [f0]
  refine lv_irem hexec hb d35 h0 ?_
  refine lv_isub hexec hb d36 ?_
  refine h_callS (lo := lo) (As := [.int (i - i / w0 * w0 - (j - j / w0 * w0))]) (n := 1) (d' := 0) (P := fun _ => True) hexec hb hml hown hts hK qm_abs trivial qw_abs qs_abs ql_215 (by decide) (by decide +kernel) rfl (by decide) (by decide) hlv.1 (by show 1 + 0 ≤ 8; decide) d37 (fun v H' L' hq hL' => ?_)
  obtain ⟨y2, rfl, rfl, hy2⟩ := hq
  refine lv_iadd hexec hb d40 ?_
  have hz : i = j → y1 + y2 = 0 := fun h => by
    subst h
    rw [hy1 (by simp), hy2 (by simp)]
    rfl
  have hlo : ∀ q ∈ ([] ++ L) ++ L', lo ≤ q.base := fun q hq => by
    rcases List.mem_append.mp hq with g | g
    · exact hL q (by simpa using g)
    · exact hL' q g
  exact W.iret hexec hb hrt (fun t ht _ => ⟨_, rfl, y1 + y2, rfl, ht, hz⟩) hlo d41 hlk
end HCOV2
