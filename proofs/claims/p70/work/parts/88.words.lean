/-! THE TABLES' WORDS BY THEIR PLACES: what the pools, names and methods rest on -/
def k_lg : List Cond := lw_tbl.filter goodWord
theorem k_lg_good : ∀ w ∈ k_lg, goodWord w = true := fun w hw => (List.mem_filter.mp hw).2
/-- the word w stands at place p of the tables, and is a good one -/
def kwd (p : Nat) (w : Cond) : Bool := match lw_tbl[p]? with
  | some w' => match decide (w' = w) with
    | true => goodWord w
    | false => false
  | none => false
theorem kwd_ok {p : Nat} {w : Cond} (h : kwd p w = true) : w ∈ k_lg := by
  unfold kwd at h
  cases h1 : lw_tbl[p]? with
  | none => simp [h1] at h
  | some w' =>
    simp only [h1] at h
    cases h2 : decide (w' = w) with
    | false => simp [h2] at h
    | true =>
      simp only [h2] at h
      have e := of_decide_eq_true h2
      subst e
      exact List.mem_filter.mpr ⟨List.mem_of_getElem? h1, h⟩
/-- two lists, item by item -/
def kzip {α : Type} (f : α → Nat → Bool) : List α → List Nat → Bool
  | [], _ => true
  | a :: l, p :: ps => match f a p with
    | true => kzip f l ps
    | false => false
  | _ :: _, [] => false
theorem kzip_ok {α : Type} {f : α → Nat → Bool} : ∀ {l : List α} {ps : List Nat}, kzip f l ps = true → ∀ a ∈ l, ∃ p, f a p = true
  | [], _, _, a, ha => by cases ha
  | b :: l, [], h, a, ha => by simp [kzip] at h
  | b :: l, p :: ps, h, a, ha => by
    unfold kzip at h
    cases h1 : f b p with
    | false => simp [h1] at h
    | true =>
      simp only [h1] at h
      rcases List.mem_cons.mp ha with rfl | ha
      · exact ⟨p, h1⟩
      · exact kzip_ok h a ha
def kOwCb (own : String) (ow : kOw) (sk : kSk) (ps ps2 ps3 : List Nat) : Bool := kzip (fun (q : Nat × Int) p => decide (-2147483648 ≤ q.2 ∧ q.2 ≤ 2147483647) && kwd p (Cond.constant own q.1 (Int32.ofInt q.2))) ow.2.1 ps && (kzip (fun (q : Nat × Int) p => decide (-9223372036854775808 ≤ q.2 ∧ q.2 ≤ 9223372036854775807) && kwd p (Cond.constantLong own q.1 (Int64.ofInt q.2))) ow.2.2.1 ps2 && kzip (fun (q : Nat × Nat) j => match sk[j]? with
  | some r => decide (r.1 = own) && (Nat.beq r.2.1 q.1 && Nat.beq q.2 (ksn j))
  | none => false) ow.2.2.2.1 ps3)
theorem kOwCb_ok {own : String} {ow : kOw} {ps ps2 ps3 : List Nat} {sk : kSk} (h : kOwCb own ow sk ps ps2 ps3 = true) : kOwC own ow k_lg sk := by
  unfold kOwCb at h
  simp only [Bool.and_eq_true] at h
  obtain ⟨h1, h2, h3⟩ := h
  refine ⟨fun q hq => ?_, fun q hq => ?_, fun q hq => ?_⟩
  · obtain ⟨p, hp⟩ := kzip_ok h1 q hq
    simp only [Bool.and_eq_true, decide_eq_true_eq] at hp
    exact ⟨_, Int32.toInt_ofInt_of_le hp.1.1 (by omega), kwd_ok hp.2⟩
  · obtain ⟨p, hp⟩ := kzip_ok h2 q hq
    simp only [Bool.and_eq_true, decide_eq_true_eq] at hp
    exact ⟨_, Int64.toInt_ofInt_of_le hp.1.1 (by omega), kwd_ok hp.2⟩
  · obtain ⟨j, hj⟩ := kzip_ok h3 q hq
    split at hj
    · rename_i r hr
      simp only [Bool.and_eq_true, decide_eq_true_eq] at hj
      obtain ⟨e1, e2, e3⟩ := hj
      obtain ⟨o, k, tx⟩ := r
      have e2 : k = q.1 := Nat.beq_eq.mp e2
      have e1 : o = own := e1
      subst e1; subst e2
      exact ⟨j, tx, hr, Nat.beq_eq.mp e3⟩
    · cases hj
def kOwFb (own : String) (ow : kOw) (cl : List vw_C) (ps : List Nat) : Bool := kzip (fun (q : Nat × Nat × Nat × Nat) p => match cl[q.2.1]? with
  | some (_, Tf, N) => match Nat.blt q.2.2.1 N with
    | true => match kwd p (Cond.fieldLink own q.1 (Tf q.2.2.1).1 (Tf q.2.2.1).2.1 (Tf q.2.2.1).2.2.1) with
      | true => match Nat.blt q.2.2.2 3 with
        | true => match (Tf q.2.2.1).2.2.2 with
          | true => false
          | false => decide (parseFieldDescriptor (Tf q.2.2.1).2.2.1 = some (kfty q.2.2.2))
        | false => true
      | false => false
    | false => false
  | none => false) ow.1 ps
theorem kOwFb_ok {own : String} {ow : kOw} {cl : List vw_C} {ps : List Nat} (h : kOwFb own ow cl ps = true) : kOwF own ow cl k_lg := by
  intro q hq
  obtain ⟨p, hp⟩ := kzip_ok h q hq
  split at hp
  · rename_i C Tf N h1
    split at hp
    · rename_i h2
      split at hp
      · rename_i h3
        refine ⟨C, Tf, N, h1, Nat.blt_eq.mp h2, kwd_ok h3, fun hlt => ?_⟩
        rw [show Nat.blt q.2.2.2 3 = true from Nat.blt_eq.mpr hlt] at hp
        dsimp only at hp
        split at hp
        · cases hp
        · rename_i h4
          exact ⟨h4, of_decide_eq_true hp⟩
      · cases hp
    · cases hp
  · cases hp
/-- a method, as the tables have it: its code, its type's file begun, an instance's method chosen by itself or a static one -/
def kMw (cl : List vw_C) (q : kMd × Nat × Nat) : Prop := Cond.code q.1.1 q.1.2.1 q.1.2.2.1 q.1.2.2.2 ∈ k_lg ∧ Cond.initialized q.1.1.cls ∈ k_lg ∧ (parseMethodDescriptor q.1.1.desc).map (fun d => d.parameters.length) = some q.2.1 ∧ (q.1.1.cls ≠ "java/lang/invoke/MethodHandle" ∧ q.1.1.cls ≠ "java/lang/invoke/VarHandle") ∧ q.1.2.2.1 ≤ 21 ∧ (q.2.2 < 100 → Cond.instanceMethod q.1.1 ∈ k_lg ∧ Cond.selects q.1.1.cls q.1.1 q.1.1 ∈ k_lg ∧ ∃ (Tf : u_T) (N : Nat), cl[q.2.2]? = some (q.1.1.cls, Tf, N)) ∧ (100 ≤ q.2.2 → Cond.static q.1.1 ∈ k_lg)
def kMwb (cl : List vw_C) (q : kMd × Nat × Nat) (p1 p2 p3 : Nat) : Bool := kwd p1 (Cond.initialized q.1.1.cls) && (decide ((parseMethodDescriptor q.1.1.desc).map (fun d => d.parameters.length) = some q.2.1) && (decide (q.1.1.cls ≠ "java/lang/invoke/MethodHandle" ∧ q.1.1.cls ≠ "java/lang/invoke/VarHandle") && (Nat.ble q.1.2.2.1 21 && (match Nat.blt q.2.2 100 with
  | true => kwd p2 (Cond.instanceMethod q.1.1) && (kwd p3 (Cond.selects q.1.1.cls q.1.1 q.1.1) && (match cl[q.2.2]? with
    | some (C, _, _) => decide (C = q.1.1.cls)
    | none => false))
  | false => kwd p2 (Cond.static q.1.1)))))
theorem kMwb_ok {cl : List vw_C} {q : kMd × Nat × Nat} {p1 p2 p3 : Nat} (h : kMwb cl q p1 p2 p3 = true) (hc : Cond.code q.1.1 q.1.2.1 q.1.2.2.1 q.1.2.2.2 ∈ k_lg) : kMw cl q := by
  unfold kMwb at h
  simp only [Bool.and_eq_true, decide_eq_true_eq] at h
  obtain ⟨h1, h2, h3, h4, h5⟩ := h
  refine ⟨hc, kwd_ok h1, h2, h3, Nat.le_of_ble_eq_true h4, fun hlt => ?_, fun hge => ?_⟩
  · rw [show Nat.blt q.2.2 100 = true from Nat.blt_eq.mpr hlt] at h5
    simp only [Bool.and_eq_true] at h5
    obtain ⟨g1, g2, g3⟩ := h5
    refine ⟨kwd_ok g1, kwd_ok g2, ?_⟩
    split at g3
    · rename_i C Tf N e
      have e2 := of_decide_eq_true g3
      subst e2
      exact ⟨Tf, N, e⟩
    · cases g3
  · rw [show Nat.blt q.2.2 100 = false from by
      cases hb : Nat.blt q.2.2 100 with
      | false => rfl
      | true => have := Nat.blt_eq.mp hb; omega] at h5
    exact kwd_ok h5
/-- a link between nest mates -/
def kwn (nw : List Cond) (p : Nat) (own : String) (i : Nat) (y : MethodName) : Bool := match nw[p]? with
  | some (.methodLinkNest a k x _) => decide (a = own) && (Nat.beq k i && decide (x = y))
  | _ => false
theorem kwn_ok {nw : List Cond} {p : Nat} {own : String} {i : Nat} {y : MethodName} (h : kwn nw p own i y = true) : ∃ host, Cond.methodLinkNest own i y host ∈ nw := by
  unfold kwn at h
  split at h
  · rename_i a k x ho hp
    simp only [Bool.and_eq_true, decide_eq_true_eq] at h
    obtain ⟨e1, e2, e3⟩ := h
    have e2 := Nat.beq_eq.mp e2
    subst e1; subst e2; subst e3
    exact ⟨ho, List.mem_of_getElem? hp⟩
  · cases h
/-- the links to methods: each to a method of the list -/
def kOwMb (own : String) (ow : kOw) (mw : List (kMd × Nat × Nat)) (nw : List Cond) (ps : List Nat) : Bool := kzip (fun (q : Nat × Nat × Nat × Nat × Nat) p => match Nat.beq q.2.2.2.1 102 with
  | true => kwd p (Cond.methodLink own q.1 arraycopyName)
  | false => match mw[q.2.1]? with
    | some x => match Nat.beq q.2.2.1 x.2.1 with
      | true => match Nat.ble q.2.2.2.2 x.1.2.2.1 with
        | true => match Nat.beq q.2.2.2.1 101 with
          | true => Nat.beq x.2.2 100 && kwn nw p own q.1 x.1.1
          | false => Nat.beq q.2.2.2.1 x.2.2 && kwd p (Cond.methodLink own q.1 x.1.1)
        | false => false
      | false => false
    | none => false) ow.2.2.2.2 ps
theorem kOwMb_ok {own : String} {ow : kOw} {cl : List vw_C} {mw : List (kMd × Nat × Nat)} {ps : List Nat} {nw : List Cond} (hmw : ∀ x ∈ mw, kMw cl x) (hcp : Cond.native arraycopyName ∈ k_lg ∧ Cond.static arraycopyName ∈ k_lg ∧ Cond.initialized "java/lang/System" ∈ k_lg) (h : kOwMb own ow mw nw ps = true) : kOwM own ow cl (mw.map (fun x => x.1)) k_lg nw := by
  intro q hq
  obtain ⟨p, hp⟩ := kzip_ok h q hq
  cases h1 : Nat.beq q.2.2.2.1 102 with
  | true =>
    simp only [h1] at hp ⊢
    exact ⟨kwd_ok hp, hcp⟩
  | false =>
    simp only [h1] at hp ⊢
    cases h2 : mw[q.2.1]? with
    | none => simp [h2] at hp
    | some x =>
      simp only [h2] at hp
      cases h3 : Nat.beq q.2.2.1 x.2.1 with
      | false => simp [h3] at hp
      | true =>
        simp only [h3] at hp
        cases h5 : Nat.ble q.2.2.2.2 x.1.2.2.1 with
        | false => simp [h5] at hp
        | true =>
          simp only [h5] at hp
          have e3 := Nat.beq_eq.mp h3
          obtain ⟨w1, w2, w3, w4, w5, w6, w7⟩ := hmw x (List.mem_of_getElem? h2)
          cases h4 : Nat.beq q.2.2.2.1 101 with
          | true =>
            simp only [h4, Bool.and_eq_true] at hp
            have e4 := Nat.beq_eq.mp h4
            have e5 := Nat.beq_eq.mp hp.1
            exact ⟨x.1.1, x.1.2.1, x.1.2.2.1, x.1.2.2.2, by rw [List.getElem?_map, h2]; rfl, w1, w2, by rw [e3]; exact w3, w4, w5, Nat.le_of_ble_eq_true h5, fun hlt => by omega, fun hge => ⟨w7 (by omega), Or.inr (kwn_ok hp.2)⟩⟩
          | false =>
            simp only [h4, Bool.and_eq_true] at hp
            have e4 := Nat.beq_eq.mp hp.1
            refine ⟨x.1.1, x.1.2.1, x.1.2.2.1, x.1.2.2.2, by rw [List.getElem?_map, h2]; rfl, w1, w2, by rw [e3]; exact w3, w4, w5, Nat.le_of_ble_eq_true h5, fun hlt => ?_, fun hge => ?_⟩
            · obtain ⟨g1, g2, g3⟩ := w6 (by omega)
              exact ⟨kwd_ok hp.2, g1, g2, by rw [e4]; exact g3⟩
            · exact ⟨w7 (by omega), Or.inl (kwd_ok hp.2)⟩
