/-! what the calls want of the machine, at the law's start -/
theorem s_ns : ∀ w ∈ k_ns, w ∈ lw_tbl := List.forall_mem_cons.mpr ⟨List.mem_of_getElem? (i := 756) (by decide +kernel), List.forall_mem_cons.mpr ⟨List.mem_of_getElem? (i := 974) (by decide +kernel), fun _ h => absurd h List.not_mem_nil⟩⟩
theorem s_nst : ∀ w ∈ k_ns, w.onTables = true := List.forall_mem_cons.mpr ⟨rfl, List.forall_mem_cons.mpr ⟨rfl, fun _ h => absurd h List.not_mem_nil⟩⟩
theorem s_kK {args : Array Value} {s : State} {D : va_G} {cA aS : Nat → Nat} {tys : List (ClassId × FieldType)} (hts : ∀ w ∈ lw_tbl, w.before args s = true) (hKn : cKn k_cl k_aty k_nw k_ao D cA tys s) (hR : ∀ (i : Nat) (q : String × Nat × String), k_sk[i]? = some q → vk_R q.1 q.2.1 q.2.2 (aS i) s) : kK k_cl k_aty k_ns k_sk D cA aS s :=
  ⟨hKn.1.1, fun k ty hk => (hKn.1.2 k _ (hKn.2.1 k ty hk)).1, fun w hw => va_Nw.of (s_nst w hw) (hts w (s_ns w hw)), hR⟩
/-- all contracts, at the start's types -/
theorem s_kept {l : Launch} {D : va_G} {cA aS adV : Nat → Nat} {n : Nat} : ∀ (i : Nat) (C : kCt), k_ct[i]? = some C → kMet l k_cl k_aty k_lg k_ns k_sk (k_mw.map (fun x => x.1)) D cA aS k_tt (sTy n k_tl aS) n (sX aS adV n) C := kept (adV := adV) sX_ok sTy_typ sTy_str rfl sTy_S
