/-! INSTRUCTIONS ON THE HEAP -/
def kfixA (S : kS) (ty : FieldType) (v : kV) : Bool := match ty, v with
  | .int, .inl _ => true
  | .long, .inr (.inl _) => true
  | .boolean, .inl f => kbt S f 0 1
  | .byte, .inl f => kbt S f (-128) 127
  | _, _ => false
def kfty (n : Nat) : FieldType := match n with
  | 0 => .int
  | 1 => .boolean
  | _ => .long
def kmapP (st : List kV) : List (kS × kV) → List kS
  | [] => []
  | q :: t => kpsh q.1 q.2 st :: kmapP st t
/-- the states behind; the next instruction is the one that stands behind -/
def kmemi (tt : List kT) (aty : List FieldType) (ow : kOw) (wr : kW) (ins : Instr) (S : kS) : Option (List kS) := match ins with
  | .getfield idx => match S.2.2.2.1, kfnd ow.1 idx with
    | .inr (.inr (.inl r)) :: st, some q => match S.2.1[r]? with
      | some t => match tt[t]? with
        | some T => match Nat.beq T.1 q.1 with
          | true => match Nat.blt T.1 100 with
            | true => match kload tt (ksloc S S.2.2.1 st) r (kcst (Int.ofNat q.2.1)) with
              | some L => some (kmapP st L)
              | none => none
            | false => none
          | false => none
        | none => none
      | none => none
    | _, _ => none
  | .putfield idx => match S.2.2.2.1, kfnd ow.1 idx with
    | v :: .inr (.inr (.inl r)) :: st, some q => match S.2.1[r]? with
      | some t => match tt[t]? with
        | some T => match Nat.beq T.1 q.1 with
          | true => match Nat.blt T.1 100 with
            | true => match Nat.blt q.2.2 3 with
              | true => match kfixA S (kfty q.2.2) v with
                | true => match kstore tt wr (ksloc S S.2.2.1 st) r (kcst (Int.ofNat q.2.1)) v with
                  | some S' => some [S']
                  | none => none
                | false => none
              | false => none
            | false => none
          | false => none
        | none => none
      | none => none
    | _, _ => none
  | _ => match S.2.2.2.1 with
    | .inl x :: .inr (.inr (.inl r)) :: st => match S.2.1[r]? with
      | some t => match tt[t]? with
        | some T => match Nat.blt T.1 100 with
          | false => match aty[T.1 - 100]? with
            | some ty => match klt ins ty with
              | true => match kload tt (ksloc S S.2.2.1 st) r x with
                | some L => some (kmapP st L)
                | none => none
              | false => none
            | none => none
          | true => none
        | none => none
      | none => none
    | v :: .inl x :: .inr (.inr (.inl r)) :: st => match S.2.1[r]? with
      | some t => match tt[t]? with
        | some T => match Nat.blt T.1 100 with
          | false => match aty[T.1 - 100]? with
            | some ty => match kstt ins ty with
              | true => match kfixA S ty v with
                | true => match kstore tt wr (ksloc S S.2.2.1 st) r x v with
                  | some S' => some [S']
                  | none => none
                | false => none
              | false => none
            | none => none
          | true => none
        | none => none
      | none => none
    | _ => none
/-- the links to fields, as the tables have them -/
def kOwF (own : String) (ow : kOw) (cl : List vw_C) (lw : List Cond) : Prop := ∀ q ∈ ow.1, ∃ (C : String) (Tf : u_T) (N : Nat), cl[q.2.1]? = some (C, Tf, N) ∧ q.2.2.1 < N ∧ Cond.fieldLink own q.1 (Tf q.2.2.1).1 (Tf q.2.2.1).2.1 (Tf q.2.2.1).2.2.1 ∈ lw ∧ (q.2.2.2 < 3 → (Tf q.2.2.1).2.2.2 = false ∧ parseFieldDescriptor (Tf q.2.2.1).2.2.1 = some (kfty q.2.2.2))
/-- the sizes of the objects are those of the tables -/
def ktok (tt : List kT) (cl : List vw_C) : Prop := ∀ (t : Nat) (T : kT), tt[t]? = some T → Nat.blt T.1 100 = true → ∃ (C : String) (Tf : u_T), cl[T.1]? = some (C, Tf, T.2.1)
/-- nothing new, nothing below lo written -/
def kfr (lo : Nat) (H H1 : Heap) : Prop := H1.size = H.size ∧ ∀ q, q < lo → H1[q]? = H[q]?
theorem kfr_rfl {lo : Nat} {H : Heap} : kfr lo H H := ⟨rfl, fun _ _ => rfl⟩
theorem kfr_trans {lo : Nat} {H H1 H2 : Heap} (h1 : kfr lo H H1) (h2 : kfr lo H1 H2) : kfr lo H H2 := ⟨h2.1.trans h1.1, fun q hq => (h2.2 q hq).trans (h1.2 q hq)⟩
section KMI
variable {p : Program} {l : Launch} {e : Env} {R : Room} {s : State} {m : MethodId} {args : Array Value} {below : List Frame} {meth : Method} {c : Code} {H : Heap} {locs : List Loc} {cells slots : Nat} {Q : State → Prop}
variable {cc : ByteArray} {pc : Nat} {ls : Array Slot} {cl : List vw_C} {aty : List FieldType} {nw lw : List Cond} {sk : kSk} {cA aS : Nat → Nat}
variable {D : va_G} {tt : List kT} {Ty : Nat → Nat → Prop} {env : List Int} {ren : List Nat} {S : kS} {lv : List (Nat × Value)} {st : List Value}
theorem kfixA_ok {ty : FieldType} {v : kV} {x : Value} (h : kst D cA tt Ty env ren S H lv st) (hv : kvok env ren v x) (hf : kfixA S ty v = true) : kfix ty x := by
  unfold kfixA at hf
  split at hf
  · obtain ⟨n, rfl, -⟩ := hv
    exact trivial
  · obtain ⟨n, rfl, -⟩ := hv
    exact trivial
  · obtain ⟨n, rfl, e2⟩ := hv
    exact kbt_ok h e2 hf
  · obtain ⟨n, rfl, e2⟩ := hv
    exact kbt_ok h e2 hf
  · cases hf
theorem kmapP_in {sa : List kV} : ∀ {L : List (kS × kV)} {q : kS × kV}, q ∈ L → kpsh q.1 q.2 sa ∈ kmapP sa L
  | [], q, h => by cases h
  | a :: L, q, h => by
    rcases List.mem_cons.mp h with rfl | h
    · exact List.mem_cons_self
    · exact List.mem_cons_of_mem _ (kmapP_in h)
set_option maxHeartbeats 4000000 in
theorem kmemi_ok (hexec : p.tables.exec = Jvm.exec) (hb : c.code = cc) {own : String} {ow : kOw} {wr : kW} {lo nL : Nat} {ins : Instr} {L : List kS} (hown : s.vm.findClass own = some m.cls) (hts : ∀ w ∈ lw, w.before args s = true) (hcl : kclok cl lw) (htok : ktok tt cl) (how : kOwF own ow cl lw) (hK : kK cl aty nw sk D cA aS s) (hTy : kTyp tt Ty) (hG : kgood D cA tt Ty lo H)
    (h : kst D cA tt Ty env ren S H lv st) (hlv : lv_has ls nL lv) (hd : decode cc pc = .ok (ins, kln ins)) (hs : kmemi tt aty ow wr ins S = some L)
    (kk : ∀ S' ∈ L, ∀ x u st' H' L', kgood D cA tt Ty lo H' → kfr lo H H' → kkp D cA tt Ty wr H H' → (∀ q ∈ L', lo ≤ q.base) → kst D cA tt Ty (env ++ x) (ren ++ u) S' H' lv st' → W p l e R s m args below meth c H' (locs ++ L') cells slots Q (F0 m (pc + kln ins) ls st')) : W p l e R s m args below meth c H locs cells slots Q (F0 m pc ls st) := by
  have hk := h.2.2.2.2.1
  have k0 : ∀ S' ∈ L, ∀ x u st', kst D cA tt Ty (env ++ x) (ren ++ u) S' H lv st' → W p l e R s m args below meth c H locs cells slots Q (F0 m (pc + kln ins) ls st') := fun S' hS x u st' g => by
    have := kk S' hS x u st' H [] hG kfr_rfl kkp_rfl (fun _ hq => by cases hq) g
    rwa [List.append_nil] at this
  unfold kmemi at hs
  split at hs
  -- getfield
  · rename_i idx
    split at hs
    · rename_i r sa q h1 h2
      rw [h1] at hk
      cases st with
      | nil => exact hk.elim
      | cons y sc =>
        obtain ⟨⟨a, rfl, ea⟩, hk2⟩ := hk
        have h' : kst D cA tt Ty env ren (ksloc S S.2.2.1 sa) H lv sc := ⟨h.1, h.2.1, h.2.2.1, h.2.2.2.1, hk2, h.2.2.2.2.2⟩
        split at hs
        · rename_i t h3
          split at hs
          · rename_i T h4
            split at hs
            · rename_i h5
              split at hs
              · rename_i h6
                split at hs
                · rename_i L' h7
                  obtain rfl := Option.some.inj hs
                  obtain ⟨a', t', T', V, z, g1, g2, g3, g4, g5, g6, g7, g8, g9, alt, g10, x, u, g11, g12⟩ := kload_ok hTy hG h' kcst_ev h7
                  have e1 : a' = a := Option.some.inj (g2.symm.trans ea)
                  subst e1
                  have e2 : t' = t := Option.some.inj (g1.symm.trans h3)
                  subst e2
                  have e3 : T' = T := Option.some.inj (g4.symm.trans h4)
                  subst e3
                  have e4 : q.2.1 = z := Int.ofNat.inj g8
                  subst e4
                  obtain ⟨C, Tf, N, c1, c2, c3, -⟩ := how _ (kfnd_mem h2)
                  have e5 : T'.1 = q.1 := Nat.beq_eq.mp h5
                  exact r_get hexec hb hts hcl hown hK (by rw [e5]; exact c1) h6 c2 g9 (hts _ c3) g6 hd (k0 _ (kmapP_in g10) x u _ (kpsh_ok g11 g12 (kStk_ext hk2)))
                · cases hs
              · cases hs
            · cases hs
          · cases hs
        · cases hs
    · cases hs
  -- putfield
  · rename_i idx
    split at hs
    · rename_i v r sa q h1 h2
      rw [h1] at hk
      cases st with
      | nil => exact hk.elim
      | cons y sc =>
        cases sc with
        | nil => exact hk.2.elim
        | cons y2 sd =>
          obtain ⟨hv, ⟨a, rfl, ea⟩, hk2⟩ := hk
          have h' : kst D cA tt Ty env ren (ksloc S S.2.2.1 sa) H lv sd := ⟨h.1, h.2.1, h.2.2.1, h.2.2.2.1, hk2, h.2.2.2.2.2⟩
          split at hs
          · rename_i t h3
            split at hs
            · rename_i T h4
              split at hs
              · rename_i h5
                split at hs
                · rename_i h6
                  split at hs
                  · rename_i h8
                    split at hs
                    · rename_i h9
                      split at hs
                      · rename_i S' h7
                        obtain rfl := Option.some.inj hs
                        obtain ⟨a', t', T', V, z, g1, g2, g3, g4, g5, g6, g8, g9, g10⟩ := kstore_ok hTy hG h' kcst_ev hv h7
                        have e1 : a' = a := Option.some.inj (g2.symm.trans ea)
                        subst e1
                        have e2 : t' = t := Option.some.inj (g1.symm.trans h3)
                        subst e2
                        have e3 : T' = T := Option.some.inj (g4.symm.trans h4)
                        subst e3
                        have e4 : q.2.1 = z := Int.ofNat.inj g8
                        subst e4
                        obtain ⟨C, Tf, N, c1, c2, c3, c4⟩ := how _ (kfnd_mem h2)
                        have e5 : T'.1 = q.1 := Nat.beq_eq.mp h5
                        obtain ⟨c5, c6⟩ := c4 (Nat.blt_eq.mp h8)
                        obtain ⟨C', Tf', c7⟩ := htok _ _ h4 h6
                        have e6 : (C', Tf', T'.2.1) = (C, Tf, N) := Option.some.inj (c7.symm.trans (by rw [e5]; exact c1))
                        have e7 : T'.2.1 = N := congrArg (fun w => w.2.2) e6
                        obtain ⟨n1, n2⟩ := kfix_narrow (kfixA_ok h hv h9)
                        refine r_put hexec hb hts hcl hown hK (by rw [e5]; exact c1) h6 c2 e7 (hts _ c3) c5 c6 n1 n2 g6 hd (fun H1 i w1 w2 w3 => ?_)
                        obtain ⟨b1, b2, b3⟩ := g10 H1 w1 w3
                        exact kk S' List.mem_cons_self [] [] _ H1 _ b1 ⟨w2, fun p hp => w3 p (fun e => by subst e; omega)⟩ b3 (fun p hp => by
                          have : p = ⟨a', i⟩ := by simpa using hp
                          subst this
                          exact g5) (by rw [List.append_nil, List.append_nil]; exact b2)
                      · cases hs
                    · cases hs
                  · cases hs
                · cases hs
              · cases hs
            · cases hs
          · cases hs
    · cases hs
  -- arrays
  · rename_i hn1 hn2
    split at hs
    · rename_i x0 r sa h1
      rw [h1] at hk
      cases st with
      | nil => exact hk.elim
      | cons y sc =>
        cases sc with
        | nil => exact hk.2.elim
        | cons y2 sd =>
          obtain ⟨⟨n, rfl, en⟩, ⟨a, rfl, ea⟩, hk2⟩ := hk
          have h' : kst D cA tt Ty env ren (ksloc S S.2.2.1 sa) H lv sd := ⟨h.1, h.2.1, h.2.2.1, h.2.2.2.1, hk2, h.2.2.2.2.2⟩
          split at hs
          · rename_i t h3
            split at hs
            · rename_i T h4
              split at hs
              · rename_i h6
                split at hs
                · rename_i ty h5
                  split at hs
                  · rename_i h8
                    split at hs
                    · rename_i L' h7
                      obtain rfl := Option.some.inj hs
                      obtain ⟨a', t', T', V, z, g1, g2, g3, g4, g5, g6, g7, g8, g9, alt, g10, x, u, g11, g12⟩ := kload_ok hTy hG h' en h7
                      have e1 : a' = a := Option.some.inj (g2.symm.trans ea)
                      subst e1
                      have e2 : t' = t := Option.some.inj (g1.symm.trans h3)
                      subst e2
                      have e3 : T' = T := Option.some.inj (g4.symm.trans h4)
                      subst e3
                      have hln : kln ins = 1 := by
                        unfold klt at h8
                        split at h8 <;> first | rfl | cases h8
                      rw [hln] at hd
                      have k1 := k0 _ (kmapP_in g10) x u _ (kpsh_ok g11 g12 (kStk_ext hk2))
                      rw [hln] at k1
                      exact r_ald hexec hb hK h5 h6 h8 g8 g9 g6 hd k1
                    · cases hs
                  · cases hs
                · cases hs
              · cases hs
            · cases hs
          · cases hs
    · rename_i v x0 r sa h1
      rw [h1] at hk
      cases st with
      | nil => exact hk.elim
      | cons y sc =>
        cases sc with
        | nil => exact hk.2.elim
        | cons y2 sd =>
          cases sd with
          | nil => exact hk.2.2.elim
          | cons y3 se =>
            obtain ⟨hv, ⟨n, rfl, en⟩, ⟨a, rfl, ea⟩, hk2⟩ := hk
            have h' : kst D cA tt Ty env ren (ksloc S S.2.2.1 sa) H lv se := ⟨h.1, h.2.1, h.2.2.1, h.2.2.2.1, hk2, h.2.2.2.2.2⟩
            split at hs
            · rename_i t h3
              split at hs
              · rename_i T h4
                split at hs
                · rename_i h6
                  split at hs
                  · rename_i ty h5
                    split at hs
                    · rename_i h8
                      split at hs
                      · rename_i h9
                        split at hs
                        · rename_i S' h7
                          obtain rfl := Option.some.inj hs
                          obtain ⟨a', t', T', V, z, g1, g2, g3, g4, g5, g6, g8, g9, g10⟩ := kstore_ok hTy hG h' en hv h7
                          have e1 : a' = a := Option.some.inj (g2.symm.trans ea)
                          subst e1
                          have e2 : t' = t := Option.some.inj (g1.symm.trans h3)
                          subst e2
                          have e3 : T' = T := Option.some.inj (g4.symm.trans h4)
                          subst e3
                          have hln : kln ins = 1 := by
                            unfold kstt at h8
                            split at h8 <;> first | rfl | cases h8
                          rw [hln] at hd
                          refine r_ast hexec hb hK h5 h6 h8 (kfixA_ok h hv h9) g8 g9 g6 hd (fun H1 i w1 w2 w3 => ?_)
                          obtain ⟨b1, b2, b3⟩ := g10 H1 w1 w3
                          have k1 := kk S' List.mem_cons_self [] [] _ H1 [⟨a', i⟩] b1 ⟨w2, fun p hp => w3 p (fun e => by subst e; omega)⟩ b3 (fun p hp => by
                            have : p = ⟨a', i⟩ := by simpa using hp
                            subst this
                            exact g5) (by rw [List.append_nil, List.append_nil]; exact b2)
                          rw [hln] at k1
                          exact k1
                        · cases hs
                      · cases hs
                    · cases hs
                  · cases hs
                · cases hs
              · cases hs
            · cases hs
    · cases hs
end KMI
