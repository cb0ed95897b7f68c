/-! CALLS -/
abbrev kMd : Type := MethodName × ByteArray × Nat × Option FieldType
def krm (d : Nat) : Room := { frames := d, cells := 0, slots := 0, locals := 40 * d }
def ktake : Nat → List kV → List kV → Option (List kV × List kV)
  | 0, l, acc => some (acc, l)
  | _ + 1, [], _ => none
  | n + 1, v :: l, acc => ktake n l (v :: acc)
def kcsum : List kV → Nat
  | [] => 0
  | v :: l => (match klong v with
    | true => 2
    | false => 1) + kcsum l
def kwsub (a b : kW) : Bool := a.all (fun w => b.any (fun w' => match Nat.beq w.1 w'.1 with
  | true => match w'.2 with
    | none => true
    | some j => match w.2 with
      | some i => Nat.beq i j
      | none => false
  | false => false))
/-- the first contract that fits -/
def ktry (tt : List kT) (ct : List kCt) (wr : kW) (d mno : Nat) (S : kS) (avs rest : List kV) : List Nat → Option (List kS)
  | [] => none
  | i :: t => match ct[i]? with
    | some C => match Nat.beq C.1 mno with
      | true => match Nat.blt C.2.2.2.2.2 d with
        | true => match kwsub C.2.2.2.2.1 wr with
          | true => match kcall tt S avs rest C with
            | some L => some L
            | none => ktry tt ct wr d mno S avs rest t
          | false => ktry tt ct wr d mno S avs rest t
        | false => ktry tt ct wr d mno S avs rest t
      | false => ktry tt ct wr d mno S avs rest t
    | none => ktry tt ct wr d mno S avs rest t
/-- a row copied into one of the same type, all of whose numbers are of one kind -/
def kcpT (aty : List FieldType) (T : kT) : Bool := match T.2.2.1, T.2.2.2, aty[T.1 - 100]? with
  | [(0, 1, k, .inl _)], [], some .int => Nat.beq k T.2.1
  | [(0, 1, k, .inr (.inl _))], [], some .long => Nat.beq k T.2.1
  | [(0, 1, k, .inl q)], [], some .boolean => match Nat.beq k T.2.1 with
    | true => q.all (fun r => Nat.ble (r.2 - r.1).toNat 1 && (match r.1 with
      | .ofNat 0 => match r.2 with
        | .ofNat 0 => true
        | .ofNat 1 => true
        | _ => false
      | .ofNat 1 => match r.2 with
        | .ofNat 1 => true
        | _ => false
      | _ => false))
    | false => false
  | _, _, _ => false
def kcopy (tt : List kT) (aty : List FieldType) (wr : kW) (d : Nat) (S : kS) : Option (List kS) := match S.2.2.2.1 with
  | .inl n :: .inl dp :: .inr (.inr (.inl b)) :: .inl sp :: .inr (.inr (.inl a)) :: st => match S.2.1[a]?, S.2.1[b]? with
    | some t, some t' => match Nat.beq t t' with
      | true => match tt[t]? with
        | some T => match Nat.blt T.1 100 with
          | false => match (match kcpT aty T with
              | true => kyf t
              | false => false) with
            | true => match kgeS S n with
              | true => match kgeS S sp with
                | true => match kgeS S dp with
                  | true => match kgeS S (ksub (ksub (kcst (Int.ofNat T.2.1)) sp) n) with
                    | true => match kgeS S (ksub (ksub (kcst (Int.ofNat T.2.1)) dp) n) with
                      | true => match wr.any (fun w => match Nat.beq w.1 t with
                          | true => match w.2 with
                            | none => true
                            | some _ => false
                          | false => false) with
                        | true => match Nat.blt 0 d with
                          | true => match Nat.ble (kcsum st) 8 with
                            | true => some [(S.1, S.2.1, S.2.2.1, st, S.2.2.2.2.1.filter (kkeepW S [(t, none)]), S.2.2.2.2.2)]
                            | false => none
                          | false => none
                        | false => none
                      | false => none
                    | false => none
                  | false => none
                | false => none
              | false => none
            | false => none
          | true => none
        | none => none
      | false => none
    | _, _ => none
  | _ => none
/-- an instruction that calls: the states behind -/
def kinv (tt : List kT) (aty : List FieldType) (ct : List kCt) (ow : kOw) (cal : List (Nat × List Nat)) (wr : kW) (d pc : Nat) (ins : Instr) (S : kS) : Option (List kS) := match ins with
  | .invokevirtual idx => match kfnd ow.2.2.2.2 idx, kfnd cal pc with
    | some q, some ids => match ktake (q.2.1 + 1) S.2.2.2.1 [] with
      | some (.inr (.inr (.inl r)) :: avs, rest) => match S.2.1[r]? with
        | some t => match tt[t]? with
          | some T => match Nat.beq T.1 q.2.2.1 with
            | true => match Nat.blt T.1 100 with
              | true => match Nat.ble (kcsum rest) 8 with
                | true => match Nat.ble (1 + kcsum avs) q.2.2.2 with
                  | true => ktry tt ct wr d q.1 S (.inr (.inr (.inl r)) :: avs) rest ids
                  | false => none
                | false => none
              | false => none
            | false => none
          | none => none
        | none => none
      | _ => none
    | _, _ => none
  | .invokestatic idx => match kfnd ow.2.2.2.2 idx with
    | some q => match Nat.beq q.2.2.1 102 with
      | true => kcopy tt aty wr d S
      | false => match kfnd cal pc with
        | some ids => match Nat.ble 100 q.2.2.1 with
          | true => match ktake q.2.1 S.2.2.2.1 [] with
            | some (avs, rest) => match Nat.ble (kcsum rest) 8 with
              | true => match Nat.ble (kcsum avs) q.2.2.2 with
                | true => ktry tt ct wr d q.1 S avs rest ids
                | false => none
              | false => none
            | none => none
          | false => none
        | none => none
    | none => none
  | _ => none
/-- the links to methods, as the tables have them -/
def kOwM (own : String) (ow : kOw) (cl : List vw_C) (mt : List kMd) (lg nw : List Cond) : Prop := ∀ q ∈ ow.2.2.2.2, match Nat.beq q.2.2.2.1 102 with
  | true => Cond.methodLink own q.1 arraycopyName ∈ lg ∧ Cond.native arraycopyName ∈ lg ∧ Cond.static arraycopyName ∈ lg ∧ Cond.initialized "java/lang/System" ∈ lg
  | false => ∃ (y : MethodName) (b : ByteArray) (mL : Nat) (r : Option FieldType), mt[q.2.1]? = some (y, b, mL, r) ∧ Cond.code y b mL r ∈ lg ∧ Cond.initialized y.cls ∈ lg ∧ (parseMethodDescriptor y.desc).map (fun d => d.parameters.length) = some q.2.2.1 ∧ (y.cls ≠ "java/lang/invoke/MethodHandle" ∧ y.cls ≠ "java/lang/invoke/VarHandle") ∧ mL ≤ 21 ∧ q.2.2.2.2 ≤ mL ∧
    (q.2.2.2.1 < 100 → Cond.methodLink own q.1 y ∈ lg ∧ Cond.instanceMethod y ∈ lg ∧ Cond.selects y.cls y y ∈ lg ∧ ∃ (Tf : u_T) (N : Nat), cl[q.2.2.2.1]? = some (y.cls, Tf, N)) ∧
    (100 ≤ q.2.2.2.1 → Cond.static y ∈ lg ∧ (Cond.methodLink own q.1 y ∈ lg ∨ ∃ host, Cond.methodLinkNest own q.1 y host ∈ nw))
/-- what a contract says of the machine -/
def kPc (cl : List vw_C) (aty : List FieldType) (nw : List Cond) (sk : kSk) (D : va_G) (cA aS : Nat → Nat) (tt : List kT) (Ty : Nat → Nat → Prop) (lo : Nat) (X : State → Heap → Prop) (mL : Nat) (P : kS) (env : List Int) (ren : List Nat) (vs : List Value) (a : Array Value) (U : State) : Prop :=
  (a = vs.toArray ∧ (lg_sl vs).length ≤ mL) ∧ kK cl aty nw sk D cA aS U ∧ X U U.heap ∧ kgood D cA tt Ty lo U.heap ∧ ∃ lv', kst D cA tt Ty env ren P U.heap lv' [] ∧ ∀ q ∈ lv', q ∈ lv_args 0 vs
def kQc (D : va_G) (cA : Nat → Nat) (tt : List kT) (Ty : Nat → Nat → Prop) (lo : Nat) (C : kCt) (env : List Int) (ren : List Nat) (_ : Array Value) (st : State) (oc : Outcome) (t : State) : Prop :=
  ∃ (v : Option Value) (q : kCs) (x : List Int) (u : List Nat), oc = .returned v ∧ q ∈ C.2.2.2.1 ∧ kst D cA tt Ty (env ++ x) (ren ++ u) (kcsT C.2.1 q) t.heap (kans v) [] ∧ kgood D cA tt Ty lo t.heap ∧ kkp D cA tt Ty C.2.2.2.2.1 st.heap t.heap ∧ kfr lo st.heap t.heap
def kMet (l : Launch) (cl : List vw_C) (aty : List FieldType) (lg nw : List Cond) (sk : kSk) (mt : List kMd) (D : va_G) (cA aS : Nat → Nat) (tt : List kT) (Ty : Nat → Nat → Prop) (lo : Nat) (X : State → Heap → Prop) (C : kCt) : Prop :=
  ∀ (y : MethodName) (b : ByteArray) (mL : Nat) (r : Option FieldType), mt[C.1]? = some (y, b, mL, r) → ∀ (env : List Int) (ren : List Nat) (vs : List Value), Met l y (Cond.code y b mL r :: lg) (krm C.2.2.2.2.2) (kPc cl aty nw sk D cA aS tt Ty lo X mL C.2.1 env ren vs) (kQc D cA tt Ty lo C env ren) 0 0 (fun q => lo ≤ q)
/-- what else is known of the heap below lo stays -/
def kXok (X : State → Heap → Prop) (lo : Nat) : Prop := (∀ (s U : State) (H H' : Heap), s.WarmedH U.vm → X s H → (∀ q, q < lo → H'[q]? = H[q]?) → X U H') ∧ ∀ (U : State) (H : Heap) (g : JFrame) (mk : MethodId) (a : Array Value), X U H → X (U.calling g mk a) H
section KINV
variable {p : Program} {l : Launch} {e : Env} {R : Room} {s : State} {m : MethodId} {args : Array Value} {below : List Frame} {meth : Method} {c : Code} {H : Heap} {locs : List Loc} {cells slots : Nat} {Q : State → Prop}
variable {cc : ByteArray} {pc : Nat} {ls : Array Slot} {rest : List Value} {cl : List vw_C} {aty : List FieldType} {nw lg : List Cond} {sk : kSk} {cA aS : Nat → Nat} {mt : List kMd} {X : State → Heap → Prop} {lo : Nat}
variable {D : va_G} {tt : List kT} {Ty : Nat → Nat → Prop} {env : List Int} {ren : List Nat} {S : kS} {lv : List (Nat × Value)} {st : List Value}
theorem ktake_ok : ∀ {n : Nat} {l acc avs ra : List kV} {st va : List Value}, ktake n l acc = some (avs, ra) → kStk env ren l st → kStk env ren acc va → ∃ front rs, st = front ++ rs ∧ kStk env ren ra rs ∧ kStk env ren avs (front.reverse ++ va) ∧ front.length = n
  | 0, l, acc, avs, ra, st, va, h, h1, h2 => by
    cases h
    exact ⟨[], st, rfl, h1, h2, rfl⟩
  | n + 1, [], acc, avs, ra, st, va, h, h1, h2 => by cases h
  | n + 1, v :: l, acc, avs, ra, [], va, h, h1, h2 => h1.elim
  | n + 1, v :: l, acc, avs, ra, x :: st, va, h, h1, h2 => by
    obtain ⟨front, rs, e1, e2, e3, e4⟩ := ktake_ok (n := n) (l := l) (acc := v :: acc) (va := x :: va) h h1.2 ⟨h1.1, h2⟩
    exact ⟨x :: front, rs, by rw [e1]; rfl, e2, by simpa using e3, by simp [e4]⟩
theorem kcsum_ok : ∀ {l : List kV} {st : List Value}, kStk env ren l st → (st.map fun v => v.category).sum = kcsum l
  | [], [], _ => rfl
  | [], _ :: _, h => h.elim
  | _ :: _, [], h => h.elim
  | v :: l, x :: st, h => by
    have h1 := kcsum_ok h.2
    simp only [List.map_cons, List.sum_cons, kcsum, h1]
    cases hb : klong v with
    | true => rw [k_cat h.1 hb]; rfl
    | false => rw [k_cat h.1 hb]; rfl
theorem k_slen : ∀ {l : List kV} {st : List Value}, kStk env ren l st → (lg_sl st).length = kcsum l
  | [], [], _ => rfl
  | [], _ :: _, h => h.elim
  | _ :: _, [], h => h.elim
  | v :: l, x :: st, h => by
    have h1 := k_slen h.2
    have e : lg_sl (x :: st) = (if x.category = 2 then [.val x, .second] else [.val x]) ++ lg_sl st := by simp [lg_sl]
    rw [e, List.length_append, h1]
    simp only [kcsum]
    cases hb : klong v with
    | true =>
      have e2 : x.category = 2 := k_cat h.1 hb
      rw [if_pos e2]
      rfl
    | false =>
      have e2 := k_cat h.1 hb
      rw [if_neg (by rw [e2]; decide)]
      rfl
theorem kwsub_ok {a b : kW} {H1 : Heap} (h : kwsub a b = true) (hk : kkp D cA tt Ty a H H1) : kkp D cA tt Ty b H H1 := by
  intro ad t T V j h1 h2 h3 h4 h5
  refine hk ad t T V j h1 h2 h3 h4 (fun w hw e => ?_)
  obtain ⟨w', g1, g2⟩ := List.any_eq_true.mp (List.all_eq_true.mp h w hw)
  cases hb : Nat.beq w.1 w'.1 with
  | false => simp [hb] at g2
  | true =>
    simp only [hb] at g2
    have e1 := Nat.beq_eq.mp hb
    obtain ⟨n1, n2⟩ := h5 w' g1 (by rw [← e1]; exact e)
    cases h6 : w'.2 with
    | none => exact absurd h6 n1
    | some i =>
      simp only [h6] at g2
      cases h7 : w.2 with
      | none => simp [h7] at g2
      | some k =>
        simp only [h7] at g2
        have e2 := Nat.beq_eq.mp g2
        subst e2
        exact ⟨by simp, fun e3 => n2 (by rw [h6]; exact e3)⟩
theorem ktry_ok {ct : List kCt} {wr : kW} {d mno : Nat} {avs ra : List kV} : ∀ {ids : List Nat} {L : List kS}, ktry tt ct wr d mno S avs ra ids = some L → ∃ (i : Nat) (C : kCt), ct[i]? = some C ∧ C.1 = mno ∧ C.2.2.2.2.2 < d ∧ kwsub C.2.2.2.2.1 wr = true ∧ kcall tt S avs ra C = some L
  | [], L, h => by cases h
  | i :: t, L, h => by
    unfold ktry at h
    split at h
    · rename_i C h1
      split at h
      · rename_i h2
        split at h
        · rename_i h3
          split at h
          · rename_i h4
            split at h
            · rename_i L' h5
              obtain rfl := Option.some.inj h
              exact ⟨i, C, h1, Nat.beq_eq.mp h2, Nat.blt_eq.mp h3, h4, h5⟩
            · exact ktry_ok h
          · exact ktry_ok h
        · exact ktry_ok h
      · exact ktry_ok h
    · exact ktry_ok h
/-- behind a call -/
theorem k_then {st0 : List Value} {Qa : State → Outcome → State → Prop} {free : Addr → Prop} (hr : va_Run p l e R s m args below meth c H locs cells slots 0 0 (F0 m pc ls st0) rest Qa free)
    (kk : ∀ (v : Option Value) (s0 t : State) (L : List Loc), s0.heap = H → Qa s0 (.returned v) t → (∀ q ∈ L, free q.base) → W p l e R s m args below meth c t.heap (locs ++ L) cells slots Q (F0 m (pc + 3) ls (v.toList ++ rest))) : W p l e R s m args below meth c H locs cells slots Q (F0 m pc ls st0) := by
  intro T hT X
  obtain ⟨v, s0, t, T', L, h0, X', hL, e1, e2, hq, st⟩ := hr T hT X
  obtain ⟨t2, a1, b1⟩ := kk v s0 t L h0 hq hL T' e1 X'
  exact ⟨t2, st t2 a1, b1⟩
/-- the words of a callee, out of the caller's -/
theorem k_callB {own : String} {index n d d' : Nat} {y : MethodName} {b : ByteArray} {mL : Nat} {r : Option FieldType} (hts : ∀ w ∈ lg, w.before args s = true) (hlg : ∀ w ∈ lg, goodWord w = true) (hR : R = krm d) (hd : d' < d) (hmL : mL ≤ 21) (h1 : Cond.code y b mL r ∈ lg) : (krm d').cells = 0 ∧ (krm d').slots = 0 ∧ (krm d').frames + 1 ≤ R.frames ∧ 8 + (mL + 11) + (krm d').locals ≤ R.locals ∧ (∀ w ∈ (Cond.code y b mL r :: lg), ∀ (a' : Array Value) (U : State), s.WarmedH U.vm → w.before a' U = true) ∧ Cond.code y b mL r ∈ (Cond.code y b mL r :: lg) := by
  subst hR
  refine ⟨rfl, rfl, ?_, ?_, pay_in hts (fun w hw => ?_), List.mem_cons_self⟩
  · show d' + 1 ≤ d
    omega
  · show 8 + (mL + 11) + 40 * d' ≤ 40 * d
    omega
  · rcases List.mem_cons.mp hw with rfl | hw
    · exact ⟨h1, good_of_word (hlg _ h1)⟩
    · exact ⟨hw, good_of_word (hlg _ hw)⟩
theorem kPc_blind {P : kS} {mL : Nat} {vs : List Value} (hn : kNest nw) (hX : kXok X lo) : FrameBlind (kPc cl aty nw sk D cA aS tt Ty lo X mL P env ren vs) := fun a U g mk h => ⟨h.1, kK_call hn h.2.1, hX.2 _ _ g mk a h.2.2.1, h.2.2.2.1, h.2.2.2.2⟩
/-- behind a call by a contract: its cases -/
theorem kcall_ok {C : kCt} {avs ra : List kV} {vs sr : List Value} {L : List kS} (hTy : kTyp tt Ty) (hG : kgood D cA tt Ty lo H) (h : kst D cA tt Ty env ren S H lv st) (ha : kStk env ren avs vs) (hr : kStk env ren ra sr) (hc : kcall tt S avs ra C = some L) :
    ∃ zs as lv', kst D cA tt Ty zs as C.2.1 H lv' [] ∧ (∀ q ∈ lv', q ∈ lv_args 0 vs) ∧ ∀ (v : Option Value) (q : kCs) (x : List Int) (u : List Nat) (H1 : Heap), q ∈ C.2.2.2.1 → kst D cA tt Ty (zs ++ x) (as ++ u) (kcsT C.2.1 q) H1 (kans v) [] → kkp D cA tt Ty C.2.2.2.2.1 H H1 → ∃ S' ∈ L, ∃ x' u', kst D cA tt Ty (env ++ x') (ren ++ u') S' H1 lv (v.toList ++ sr) := by
  unfold kcall at hc
  split at hc
  · rename_i q hq
    split at hc
    · rename_i hch
      have h1 : kst D cA tt Ty env ren (S.1, S.2.1, klocs 0 avs, [], S.2.2.2.2) H (lv_args 0 vs) [] := ⟨h.1, h.2.1, h.2.2.1, klocs_ok ha, trivial, h.2.2.2.2.2⟩
      obtain ⟨x, u, zs, as, g1, g2, g3⟩ := kbind_ok (zs := []) (as := []) (sg := []) (sr := []) hTy hG h1 trivial trivial hq
      rw [List.nil_append] at g2 g3
      obtain ⟨lv', g4, g5⟩ := kch_ok hTy g1 g2 g3 hch
      refine ⟨zs, as, lv', g4, g5, fun v p x2 u2 H1 hp hk hkk => ?_⟩
      obtain ⟨L', w1, w2⟩ := kcases_mem hc hp
      obtain ⟨S', w3, w4⟩ := kcase_ok (lo := lo) hTy g1 g2 g3 g4.1 g4.2.2.1 hkk (kLoc_ext h.2.2.2.1) (kStk_ext hr) hk w1
      exact ⟨S', w2 S' w3, x ++ x2, u ++ u2, by rw [← List.append_assoc, ← List.append_assoc]; exact w4⟩
    · cases hc
  · cases hc
end KINV
