/-! the words at the law's start (printed by wip/p68/gen2/start.py) -/
theorem s_inst : ∀ q ∈ k_cl, Cond.instantiable q.1 q.2.2 ∈ k_lg := List.forall_mem_cons.mpr ⟨kwd_ok (p := 287) (by decide +kernel), List.forall_mem_cons.mpr ⟨kwd_ok (p := 367) (by decide +kernel), List.forall_mem_cons.mpr ⟨kwd_ok (p := 314) (by decide +kernel), List.forall_mem_cons.mpr ⟨kwd_ok (p := 169) (by decide +kernel), List.forall_mem_cons.mpr ⟨kwd_ok (p := 391) (by decide +kernel), List.forall_mem_cons.mpr ⟨kwd_ok (p := 308) (by decide +kernel), List.forall_mem_cons.mpr ⟨kwd_ok (p := 142) (by decide +kernel), List.forall_mem_cons.mpr ⟨kwd_ok (p := 402) (by decide +kernel), List.forall_mem_cons.mpr ⟨kwd_ok (p := 126) (by decide +kernel), List.forall_mem_cons.mpr ⟨kwd_ok (p := 118) (by decide +kernel), List.forall_mem_cons.mpr ⟨kwd_ok (p := 1217) (by decide +kernel), fun _ h => absurd h List.not_mem_nil⟩⟩⟩⟩⟩⟩⟩⟩⟩⟩⟩
theorem s_nw : ∀ w ∈ k_nw, w ∈ lw_tbl := List.forall_mem_cons.mpr ⟨List.mem_of_getElem? (i := 127) (by decide +kernel), List.forall_mem_cons.mpr ⟨List.mem_of_getElem? (i := 170) (by decide +kernel), List.forall_mem_cons.mpr ⟨List.mem_of_getElem? (i := 288) (by decide +kernel), List.forall_mem_cons.mpr ⟨List.mem_of_getElem? (i := 309) (by decide +kernel), List.forall_mem_cons.mpr ⟨List.mem_of_getElem? (i := 368) (by decide +kernel), List.forall_mem_cons.mpr ⟨List.mem_of_getElem? (i := 392) (by decide +kernel), List.forall_mem_cons.mpr ⟨List.mem_of_getElem? (i := 403) (by decide +kernel), List.forall_mem_cons.mpr ⟨List.mem_of_getElem? (i := 315) (by decide +kernel), fun _ h => absurd h List.not_mem_nil⟩⟩⟩⟩⟩⟩⟩⟩
theorem s_nwt : ∀ w ∈ k_nw, w.onTables = true := List.forall_mem_cons.mpr ⟨rfl, List.forall_mem_cons.mpr ⟨rfl, List.forall_mem_cons.mpr ⟨rfl, List.forall_mem_cons.mpr ⟨rfl, List.forall_mem_cons.mpr ⟨rfl, List.forall_mem_cons.mpr ⟨rfl, List.forall_mem_cons.mpr ⟨rfl, List.forall_mem_cons.mpr ⟨rfl, fun _ h => absurd h List.not_mem_nil⟩⟩⟩⟩⟩⟩⟩⟩
theorem s_ao : ∀ C ∈ k_ao, Cond.arrayOver (.object C) ∈ lw_tbl := List.forall_mem_cons.mpr ⟨List.mem_of_getElem? (i := 401) (by decide +kernel), List.forall_mem_cons.mpr ⟨List.mem_of_getElem? (i := 421) (by decide +kernel), List.forall_mem_cons.mpr ⟨List.mem_of_getElem? (i := 422) (by decide +kernel), fun _ h => absurd h List.not_mem_nil⟩⟩⟩
theorem s_start {A : Array Value} {s : State} (l : Launch) (hts : ∀ w ∈ lw_tbl, w.before A s = true) : ∃ (D : va_G) (cA : Nat → Nat) (tys : List (ClassId × FieldType)), cKn k_cl k_aty k_nw k_ao D cA tys s := by
  have hlg : ∀ w ∈ k_lg, w.before A s = true := fun w hw => hts w (List.mem_filter.mp hw).1
  refine s_known (A := A) (fun ci q hq => ?_) (fun k ty hk => ?_) (fun w hw => va_Nw.of (s_nwt w hw) (hts w (s_nw w hw))) (fun C hC => va_AO.of (hts _ (s_ao C hC)))
  · obtain ⟨C, Tf, N⟩ := q
    exact u_known hlg (k_clok ci C Tf N hq).2 (hlg _ (s_inst _ (List.mem_of_getElem? hq)))
  · obtain ⟨-, -, -, -, -, b6, -, -⟩ := k_base (l := l)
    match k, hk with
    | 0, hk => cases hk; exact s_prim (fun _ h => by cases h) (hlg _ b6.1)
    | 1, hk => cases hk; exact s_prim (fun _ h => by cases h) (hlg _ b6.2.1)
    | 2, hk => cases hk; exact s_prim (fun _ h => by cases h) (hlg _ b6.2.2.1)
    | 3, hk => cases hk; exact s_prim (fun _ h => by cases h) (hlg _ b6.2.2.2)
    | 4, hk => cases hk; exact s_obj (hts _ (s_ao _ (by decide)))
    | 5, hk => cases hk; exact s_obj (hts _ (s_ao _ (by decide)))
    | 6, hk => cases hk; exact s_obj (hts _ (s_ao _ (by decide)))
    | k + 7, hk => cases hk
