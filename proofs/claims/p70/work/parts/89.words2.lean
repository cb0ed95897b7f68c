/-! names and types by the tables' places -/
def knub : List String → Bool
  | [] => true
  | a :: l => match l.any (fun b => decide (b = a)) with
    | true => false
    | false => knub l
theorem knub_ok : ∀ {l : List String}, knub l = true → l.Nodup
  | [], _ => List.nodup_nil
  | a :: l, h => by
    unfold knub at h
    split at h
    · cases h
    · rename_i h1
      refine List.nodup_cons.mpr ⟨fun hm => ?_, knub_ok h⟩
      have : l.any (fun b => decide (b = a)) = true := List.any_eq_true.mpr ⟨a, hm, decide_eq_true rfl⟩
      rw [this] at h1
      cases h1
def kclb (q : vw_C) (ps : List Nat) : Bool := (List.range q.2.2).all (fun k => (parseFieldDescriptor (q.2.1 k).2.2.1).isSome) && (knub ((List.range q.2.2).map (fun k => (q.2.1 k).2.1)) && kzip (fun k p => kwd p (u_lay q.1 q.2.1 k)) (List.range q.2.2) ps)
theorem kclb_ok {C : String} {Tf : u_T} {N : Nat} {ps : List Nat} (h : kclb (C, Tf, N) ps = true) : (∃ ty0 : Nat → FieldType, (∀ k, k < N → parseFieldDescriptor (Tf k).2.2.1 = some (ty0 k)) ∧ ∀ a, a < N → ∀ b, b < N → a ≠ b → (Tf a).2.1 ≠ (Tf b).2.1) ∧ ∀ w ∈ u_ws C Tf N, w ∈ k_lg := by
  unfold kclb at h
  simp only [Bool.and_eq_true] at h
  obtain ⟨h1, h2, h3⟩ := h
  refine ⟨⟨fun k => (parseFieldDescriptor (Tf k).2.2.1).getD .int, fun k hk => ?_, fun a ha b hb hab e => ?_⟩, fun w hw => ?_⟩
  · have := List.all_eq_true.mp h1 k (List.mem_range.mpr hk)
    cases h4 : parseFieldDescriptor (Tf k).2.2.1 with
    | none => simp [h4] at this
    | some ty => simp [h4]
  · have hn := knub_ok h2
    have ga : ((List.range N).map (fun k => (Tf k).2.1))[a]? = some (Tf a).2.1 := by simp [ha]
    have gb : ((List.range N).map (fun k => (Tf k).2.1))[b]? = some (Tf b).2.1 := by simp [hb]
    obtain ⟨la, ea⟩ := List.getElem?_eq_some_iff.mp ga
    obtain ⟨lb, eb⟩ := List.getElem?_eq_some_iff.mp gb
    rcases Nat.lt_or_gt_of_ne hab with hlt | hlt
    · exact List.pairwise_iff_getElem.mp hn a b la lb hlt (by rw [ea, eb, e])
    · exact List.pairwise_iff_getElem.mp hn b a lb la hlt (by rw [ea, eb, e])
  · obtain ⟨k, hk, rfl⟩ := List.mem_map.mp hw
    obtain ⟨p, hp⟩ := kzip_ok h3 k hk
    exact kwd_ok hp
theorem kclok_of {cl : List vw_C} (h : ∀ q ∈ cl, ∃ ps, kclb q ps = true) : kclok cl k_lg := fun ci C Tf N hc => by
  obtain ⟨ps, hp⟩ := h _ (List.mem_of_getElem? hc)
  exact kclb_ok hp
def ktokb (tt : List kT) (cl : List vw_C) : Bool := tt.all (fun T => match Nat.blt T.1 100 with
  | true => match cl[T.1]? with
    | some (_, _, N) => Nat.beq N T.2.1
    | none => false
  | false => true)
theorem ktokb_ok {tt : List kT} {cl : List vw_C} (h : ktokb tt cl = true) : ktok tt cl := fun t T ht hb => by
  have h1 := List.all_eq_true.mp h T (List.mem_of_getElem? ht)
  simp only [hb] at h1
  split at h1
  · rename_i C Tf N e
    have e2 := Nat.beq_eq.mp h1
    subst e2
    exact ⟨C, Tf, e⟩
  · cases h1
def kTypb (tt : List kT) : Bool := Nat.ble tt.length 1000 && (tt.all (fun T => Nat.blt T.2.1 5000) && ((match tt[36]? with
  | some T => Nat.beq T.2.1 38
  | none => true) && (match tt[40]? with
  | some T => Nat.beq T.2.1 900
  | none => true)))
theorem kTypb_ok {tt : List kT} {Ty : Nat → Nat → Prop} (h : kTypb tt = true) (hf : ∀ a t t', t < 1000 → t' < 1000 → Ty a t → Ty a t' → t = t') : kTyp tt Ty := by
  unfold kTypb at h
  simp only [Bool.and_eq_true] at h
  obtain ⟨h1, h2, h3, h4⟩ := h
  refine ⟨hf, Nat.le_of_ble_eq_true h1, fun t T ht => Nat.blt_eq.mp (List.all_eq_true.mp h2 T (List.mem_of_getElem? ht)), fun T hT => ?_, fun T hT => ?_⟩
  · rw [hT] at h3
    exact Nat.beq_eq.mp h3
  · rw [hT] at h4
    exact Nat.beq_eq.mp h4
/-- what all bodies of a table rest on -/
theorem kRest_of {l : Launch} {cl : List vw_C} {aty : List FieldType} {nw : List Cond} {sk : kSk} {mw : List (kMd × Nat × Nat)} {D : va_G} {cA aS : Nat → Nat} {tt : List kT} {Ty : Nat → Nat → Prop} {lo : Nat} {X : State → Heap → Prop} {ct : List kCt} {own : String} {ow : kOw} {d : Nat} (h1 : kOwC own ow k_lg sk) (h2 : kOwF own ow cl k_lg) (h3 : kOwM own ow cl (mw.map (fun x => x.1)) k_lg nw) (h4 : kclok cl k_lg) (h5 : ktok tt cl) (hn : kNest nw) (h6 : kXok X lo) (h7 : kTyp tt Ty) (hS : ∀ (j : Nat) (q : String × Nat × String), sk[j]? = some q → Ty (aS j) (ksn j)) (h8 : ∀ (i : Nat) (C : kCt), ct[i]? = some C → C.2.2.2.2.2 < d → kMet l cl aty k_lg nw sk (mw.map (fun x => x.1)) D cA aS tt Ty lo X C) : kRest l cl aty k_lg nw sk (mw.map (fun x => x.1)) D cA aS tt Ty lo X ct own ow d :=
  ⟨k_lg_good, h1, h2, h3, h4, h5, hn, h6, h7, hS, h8⟩
/-- a contract is kept if all of lesser depth are -/
def kGo (l : Launch) (cl : List vw_C) (aty : List FieldType) (nw : List Cond) (sk : kSk) (mw : List (kMd × Nat × Nat)) (D : va_G) (cA aS : Nat → Nat) (tt : List kT) (Ty : Nat → Nat → Prop) (lo : Nat) (X : State → Heap → Prop) (ct : List kCt) (C : kCt) : Prop :=
  (∀ (j : Nat) (C' : kCt), ct[j]? = some C' → C'.2.2.2.2.2 < C.2.2.2.2.2 → kMet l cl aty k_lg nw sk (mw.map (fun x => x.1)) D cA aS tt Ty lo X C') → kMet l cl aty k_lg nw sk (mw.map (fun x => x.1)) D cA aS tt Ty lo X C
theorem kGo_all {l : Launch} {cl : List vw_C} {aty : List FieldType} {nw : List Cond} {sk : kSk} {mw : List (kMd × Nat × Nat)} {D : va_G} {cA aS : Nat → Nat} {tt : List kT} {Ty : Nat → Nat → Prop} {lo : Nat} {X : State → Heap → Prop} {ct : List kCt} (h : ∀ C ∈ ct, kGo l cl aty nw sk mw D cA aS tt Ty lo X ct C) : ∀ (i : Nat) (C : kCt), ct[i]? = some C → kMet l cl aty k_lg nw sk (mw.map (fun x => x.1)) D cA aS tt Ty lo X C :=
  kall_met (fun i C hi hlt => h C (List.mem_of_getElem? hi) hlt)
