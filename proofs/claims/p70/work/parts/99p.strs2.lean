/-! and their words -/
section SSTR2
variable {args : Array Value} {s : State} {A : Nat → Prop}
theorem s_strw : ∀ q ∈ k_sk, Cond.stringRef q.1 q.2.1 q.2.2 ∈ lw_tbl := List.forall_mem_cons.mpr ⟨List.mem_of_getElem? (i := 509) (by decide +kernel), List.forall_mem_cons.mpr ⟨List.mem_of_getElem? (i := 570) (by decide +kernel), List.forall_mem_cons.mpr ⟨List.mem_of_getElem? (i := 586) (by decide +kernel), List.forall_mem_cons.mpr ⟨List.mem_of_getElem? (i := 587) (by decide +kernel), List.forall_mem_cons.mpr ⟨List.mem_of_getElem? (i := 588) (by decide +kernel), List.forall_mem_cons.mpr ⟨List.mem_of_getElem? (i := 589) (by decide +kernel), List.forall_mem_cons.mpr ⟨List.mem_of_getElem? (i := 590) (by decide +kernel), List.forall_mem_cons.mpr ⟨List.mem_of_getElem? (i := 599) (by decide +kernel), List.forall_mem_cons.mpr ⟨List.mem_of_getElem? (i := 600) (by decide +kernel), List.forall_mem_cons.mpr ⟨List.mem_of_getElem? (i := 605) (by decide +kernel), List.forall_mem_cons.mpr ⟨List.mem_of_getElem? (i := 606) (by decide +kernel), List.forall_mem_cons.mpr ⟨List.mem_of_getElem? (i := 607) (by decide +kernel), List.forall_mem_cons.mpr ⟨List.mem_of_getElem? (i := 612) (by decide +kernel), List.forall_mem_cons.mpr ⟨List.mem_of_getElem? (i := 613) (by decide +kernel), List.forall_mem_cons.mpr ⟨List.mem_of_getElem? (i := 618) (by decide +kernel), List.forall_mem_cons.mpr ⟨List.mem_of_getElem? (i := 619) (by decide +kernel), List.forall_mem_cons.mpr ⟨List.mem_of_getElem? (i := 620) (by decide +kernel), List.forall_mem_cons.mpr ⟨List.mem_of_getElem? (i := 1390) (by decide +kernel), List.forall_mem_cons.mpr ⟨List.mem_of_getElem? (i := 1409) (by decide +kernel), List.forall_mem_cons.mpr ⟨List.mem_of_getElem? (i := 1418) (by decide +kernel), List.forall_mem_cons.mpr ⟨List.mem_of_getElem? (i := 1419) (by decide +kernel), List.forall_mem_cons.mpr ⟨List.mem_of_getElem? (i := 1420) (by decide +kernel), List.forall_mem_cons.mpr ⟨List.mem_of_getElem? (i := 1421) (by decide +kernel), List.forall_mem_cons.mpr ⟨List.mem_of_getElem? (i := 1426) (by decide +kernel), List.forall_mem_cons.mpr ⟨List.mem_of_getElem? (i := 1427) (by decide +kernel), List.forall_mem_cons.mpr ⟨List.mem_of_getElem? (i := 1428) (by decide +kernel), List.forall_mem_cons.mpr ⟨List.mem_of_getElem? (i := 1429) (by decide +kernel), List.forall_mem_cons.mpr ⟨List.mem_of_getElem? (i := 1434) (by decide +kernel), List.forall_mem_cons.mpr ⟨List.mem_of_getElem? (i := 1439) (by decide +kernel), List.forall_mem_cons.mpr ⟨List.mem_of_getElem? (i := 1440) (by decide +kernel), List.forall_mem_cons.mpr ⟨List.mem_of_getElem? (i := 1441) (by decide +kernel), List.forall_mem_cons.mpr ⟨List.mem_of_getElem? (i := 1442) (by decide +kernel), List.forall_mem_cons.mpr ⟨List.mem_of_getElem? (i := 1443) (by decide +kernel), List.forall_mem_cons.mpr ⟨List.mem_of_getElem? (i := 1444) (by decide +kernel), fun _ h => absurd h List.not_mem_nil⟩⟩⟩⟩⟩⟩⟩⟩⟩⟩⟩⟩⟩⟩⟩⟩⟩⟩⟩⟩⟩⟩⟩⟩⟩⟩⟩⟩⟩⟩⟩⟩⟩⟩
theorem s_lay1 : Cond.laysStatic "java/lang/String" "COMPACT_STRINGS" "Z" ∈ lw_tbl := List.mem_of_getElem? (i := 527) (by decide +kernel)
theorem s_lay2 : Cond.laysStatic "jdk/internal/util/Preconditions" "SIOOBE_FORMATTER" "Ljava/util/function/BiFunction;" ∈ lw_tbl := List.mem_of_getElem? (i := 543) (by decide +kernel)
set_option maxHeartbeats 4000000 in
theorem s_strs {n : Nat} (hn : s.heap.size = n) (hts : ∀ w ∈ lw_tbl, w.before args s = true) (hgv : (Jvm.Cond.and given_1 narrow_1).before args s = true) : ∃ aS adV : Nat → Nat, sX aS adV n s s.heap ∧ ∀ (i : Nat) (q : String × Nat × String), k_sk[i]? = some q → vk_R q.1 q.2.1 q.2.2 (aS i) s := by
  have hs := flat_of_before _ hgv
  have hlg : ∀ w ∈ k_lg, w.before args s = true := fun w hw => hts w (List.mem_filter.mp hw).1
  have hA : ∀ a : Nat, a < s.heap.size → ¬ (fun q => n ≤ q) a := fun a ha h => by
    have h : n ≤ a := h
    omega
  have h0 : ∀ i : Nat, ∃ q : Nat × Nat, i < 34 → (s_tm i).eval args s none [] s = some (.ref q.1) ∧ va_O "java/lang/String" q.1 (fun q => n ≤ q) s s.heap ∧ va_OF "java/lang/String" "coder" "B" (.int 0) q.1 (fun q => n ≤ q) s s.heap ∧ va_OF "java/lang/String" "value" "[B" (.ref q.2) q.1 (fun q => n ≤ q) s s.heap ∧ va_T .byte q.2 (s_len.getD i 0) (fun j => .int ((s_byt.getD i []).getD j 0)) (fun q => n ≤ q) s s.heap := fun i => by
    by_cases hi : i < 34
    · obtain ⟨q, hq⟩ := st_all (A := fun q => n ≤ q) hA hs i hi
      exact ⟨q, fun _ => hq⟩
    · exact ⟨(0, 0), fun h => absurd h hi⟩
  obtain ⟨ad, had⟩ := Classical.axiomOfChoice h0
  refine ⟨fun i => (ad i).1, fun i => (ad i).2, ⟨fun i hi => (had i hi).2, va_Zof (hts _ s_lay1) (hlg _ sw_coder.2) (va_eqt (hs _ (by decide +kernel))) hA, ?_⟩, fun i q hq => ?_⟩
  · have h1 : (Cond.isRef (.static "jdk/internal/util/Preconditions" "SIOOBE_FORMATTER" "Ljava/util/function/BiFunction;")).before args s = true := hs _ (by decide +kernel)
    obtain ⟨v, hv, hr⟩ := Cond.isRef_spec (args := args) (first := s) (o := none) (s := s) (idx := []) h1
    refine ⟨v, ?_, ?_, va_Zof (hts _ s_lay2) (hlg _ sw_pre.2) hv hA⟩
    · cases v <;> first | rfl | (simp [Value.isRef] at hr)
    · cases v <;> first | exact Or.inl rfl | exact Or.inr ⟨_, rfl⟩ | (simp [Value.isRef] at hr)
  · have hi : i < 34 := (List.getElem?_eq_some_iff.mp hq).1
    have e := (had i hi).1
    unfold s_tm at e
    rw [hq] at e
    exact vk_R.of (hts _ (s_strw q (List.mem_of_getElem? hq))) e
end SSTR2
