/-- the type of a String constant by its place: those of the first 17 are alike -/
def ksn (j : Nat) : Nat := match Nat.blt j 17 with
  | true => 1000
  | false => match Nat.ble 23 j && Nat.ble j 26 with
    | true => 1000 + j
    | false => 1001
/-- what the pool of a type's file says -/
def kOwC (own : String) (ow : kOw) (lw : List Cond) (sk : kSk) : Prop :=
  (∀ q ∈ ow.2.1, ∃ v : Int32, v.toInt = q.2 ∧ Cond.constant own q.1 v ∈ lw) ∧ (∀ q ∈ ow.2.2.1, ∃ v : Int64, v.toInt = q.2 ∧ Cond.constantLong own q.1 v ∈ lw) ∧ ∀ q ∈ ow.2.2.2.1, ∃ (j : Nat) (tx : String), sk[j]? = some (own, q.1, tx) ∧ q.2 = ksn j
section KS1OK
variable {p : Program} {l : Launch} {e : Env} {R : Room} {s : State} {m : MethodId} {args : Array Value} {below : List Frame} {meth : Method} {c : Code} {H : Heap} {locs : List Loc} {cells slots : Nat} {Q : State → Prop}
variable {cc : ByteArray} {pc : Nat} {ls : Array Slot} {rest : List Value} {cl : List vw_C} {aty : List FieldType} {nw lw : List Cond} {sk : kSk} {cA aS : Nat → Nat}
variable {D : va_G} {tt : List kT} {Ty : Nat → Nat → Prop} {env : List Int} {ren : List Nat} {S : kS} {lv : List (Nat × Value)} {st : List Value}
theorem r_ib (hexec : p.tables.exec = Jvm.exec) (hb : c.code = cc) {ins : Instr} {f g : kL} {r : kRes} {x y : Int32} (hk : kib S f g ins = some r) (hne : (ins = .idiv ∨ ins = .irem) → ¬ y = 0) (hdg : decode cc pc = .ok (ins, kln ins))
    (kk : W p l e R s m args below meth c H locs cells slots Q (F0 m (pc + kln ins) ls (.int (cib x y ins) :: rest))) : W p l e R s m args below meth c H locs cells slots Q (F0 m pc ls (.int y :: .int x :: rest)) := by
  unfold kib at hk
  split at hk
  · exact lv_iadd hexec hb hdg kk
  · exact lv_isub hexec hb hdg kk
  · exact lv_imul hexec hb hdg kk
  · exact lv_idiv hexec hb hdg (hne (Or.inl rfl)) kk
  · exact lv_irem hexec hb hdg (hne (Or.inr rfl)) kk
  · exact lv_iand hexec hb hdg kk
  · exact lv_ior hexec hb hdg kk
  · exact lv_ixor hexec hb hdg kk
  · exact lv_ishl hexec hb hdg kk
  · exact lv_ishr hexec hb hdg kk
  · exact lv_iushr hexec hb hdg rfl kk
  · cases hk
theorem r_lo (hexec : p.tables.exec = Jvm.exec) (hb : c.code = cc) {ins : Instr} {f g : kL} {r : kRes} {x y : Int64} (hk : klo S f g ins = some r) (hne : (ins = .ldiv ∨ ins = .lrem) → ¬ y = 0) (hdg : decode cc pc = .ok (ins, kln ins))
    (kk : W p l e R s m args below meth c H locs cells slots Q (F0 m (pc + kln ins) ls (.long (clo x y ins) :: rest))) : W p l e R s m args below meth c H locs cells slots Q (F0 m pc ls (.long y :: .long x :: rest)) := by
  unfold klo at hk
  split at hk
  · exact lv_ladd hexec hb hdg kk
  · exact lv_lsub hexec hb hdg kk
  · exact lv_lmul hexec hb hdg kk
  · exact lv_ldiv hexec hb hdg (hne (Or.inl rfl)) kk
  · exact lv_lrem hexec hb hdg (hne (Or.inr rfl)) kk
  · exact lv_land hexec hb hdg kk
  · exact lv_lor hexec hb hdg kk
  · cases hk
theorem kload1_ok {S' : kS} {i k : Nat} (h : kst D cA tt Ty env ren S H lv st) {nL : Nat} (hlv : lv_has ls nL lv) (hs : kload1 S i k = some S') : ∃ x, ls[i]? = some (.val x) ∧ kst D cA tt Ty env ren S' H lv (x :: st) ∧ (k = 0 → ∃ n, x = .int n) ∧ (k = 1 → ∃ n, x = .long n) ∧ (k = 2 → ∃ n, x = .ref n) := by
  unfold kload1 at hs
  split at hs
  · rename_i f h1
    obtain ⟨x, g1, g2⟩ := kLoc_mem h.2.2.2.1 (klocv_mem h1)
    split at hs
    · obtain rfl := Option.some.inj hs
      obtain ⟨n, e1, -⟩ := id g2
      exact ⟨x, hlv.2.2 _ g1, kpsh_ok h g2 h.2.2.2.2.1, fun _ => ⟨n, e1⟩, fun e => by omega, fun e => by omega⟩
    · cases hs
  · rename_i f h1
    obtain ⟨x, g1, g2⟩ := kLoc_mem h.2.2.2.1 (klocv_mem h1)
    split at hs
    · obtain rfl := Option.some.inj hs
      obtain ⟨n, e1, -⟩ := id g2
      exact ⟨x, hlv.2.2 _ g1, kpsh_ok h g2 h.2.2.2.2.1, fun e => by omega, fun _ => ⟨n, e1⟩, fun e => by omega⟩
    · cases hs
  · rename_i f h1
    obtain ⟨x, g1, g2⟩ := kLoc_mem h.2.2.2.1 (klocv_mem h1)
    split at hs
    · obtain rfl := Option.some.inj hs
      obtain ⟨n, e1, -⟩ := id g2
      exact ⟨x, hlv.2.2 _ g1, kpsh_ok h g2 h.2.2.2.2.1, fun e => by omega, fun e => by omega, fun _ => ⟨n, e1⟩⟩
    · cases hs
  · cases hs
theorem kstor1_i {S' : kS} {i nL : Nat} (h : kst D cA tt Ty env ren S H lv st) (hs : kstor1 S nL i 0 = some S') : ∃ n st', st = .int n :: st' ∧ i < nL ∧ kst D cA tt Ty env ren S' H ((i, .int n) :: lv.filter (fun q => !(q.1 == i) && !(q.1 + 1 == i && q.2.category == 2))) st' := by
  unfold kstor1 at hs
  have hk := h.2.2.2.2.1
  split at hs
  · rename_i f sa h1
    rw [h1] at hk
    cases st with
    | nil => exact hk.elim
    | cons x st' =>
      cases h2 : Nat.blt i nL with
      | false => simp [h2] at hs
      | true =>
        simp only [h2] at hs
        obtain rfl := Option.some.inj hs
        obtain ⟨n, e1, e2⟩ := hk.1
        subst e1
        exact ⟨n, st', rfl, Nat.blt_eq.mp h2, h.1, h.2.1, h.2.2.1, kput1_ok h.2.2.2.1 ⟨n, rfl, e2⟩, hk.2, h.2.2.2.2.2⟩
  · simp at hs
  · simp at hs
  · cases hs
theorem kstor1_l {S' : kS} {i nL : Nat} (h : kst D cA tt Ty env ren S H lv st) (hs : kstor1 S nL i 1 = some S') : ∃ n st', st = .long n :: st' ∧ i + 1 < nL ∧ kst D cA tt Ty env ren S' H ((i, .long n) :: lv.filter (fun q => !(q.1 == i) && (!(q.1 == i + 1) && !(q.1 + 1 == i && q.2.category == 2)))) st' := by
  unfold kstor1 at hs
  have hk := h.2.2.2.2.1
  split at hs
  · simp at hs
  · rename_i f sa h1
    rw [h1] at hk
    cases st with
    | nil => exact hk.elim
    | cons x st' =>
      cases h2 : Nat.blt (i + 1) nL with
      | false => simp [h2] at hs
      | true =>
        simp only [h2] at hs
        obtain rfl := Option.some.inj hs
        obtain ⟨n, e1, e2⟩ := hk.1
        subst e1
        exact ⟨n, st', rfl, Nat.blt_eq.mp h2, h.1, h.2.1, h.2.2.1, kput2_ok h.2.2.2.1 ⟨n, rfl, e2⟩, hk.2, h.2.2.2.2.2⟩
  · simp at hs
  · cases hs
theorem kstor1_r {S' : kS} {i nL : Nat} (h : kst D cA tt Ty env ren S H lv st) (hs : kstor1 S nL i 2 = some S') : ∃ n st', st = .ref n :: st' ∧ i < nL ∧ kst D cA tt Ty env ren S' H ((i, .ref n) :: lv.filter (fun q => !(q.1 == i) && !(q.1 + 1 == i && q.2.category == 2))) st' := by
  unfold kstor1 at hs
  have hk := h.2.2.2.2.1
  split at hs
  · simp at hs
  · simp at hs
  · rename_i f sa h1
    rw [h1] at hk
    cases st with
    | nil => exact hk.elim
    | cons x st' =>
      cases h2 : Nat.blt i nL with
      | false => simp [h2] at hs
      | true =>
        simp only [h2] at hs
        obtain rfl := Option.some.inj hs
        obtain ⟨n, e1, e2⟩ := hk.1
        subst e1
        exact ⟨n, st', rfl, Nat.blt_eq.mp h2, h.1, h.2.1, h.2.2.1, kput1_ok h.2.2.2.1 ⟨n, rfl, e2⟩, hk.2, h.2.2.2.2.2⟩
  · cases hs
theorem kin_ok {n lo hi : Int} (h : kin n lo hi = true) : lo ≤ n ∧ n ≤ hi := by
  unfold kin at h
  cases h1 : knn (n - lo) with
  | false => rw [h1] at h; cases h
  | true =>
    rw [h1] at h
    have := knn_iff.mp h1
    have := knn_iff.mp h
    omega
theorem k_cat {v : kV} {x : Value} (h : kvok env ren v x) {b : Bool} (hb : klong v = b) : x.category = (if b then 2 else 1) := by
  match v, h with
  | .inl f, ⟨n, e, _⟩ => subst e; subst hb; rfl
  | .inr (.inl f), ⟨n, e, _⟩ => subst e; subst hb; rfl
  | .inr (.inr (.inl f)), ⟨n, e, _⟩ => subst e; subst hb; rfl
  | .inr (.inr (.inr f)), ⟨n, _, _, e, _⟩ => subst e; subst hb; rfl
theorem k_ofInt {n : Int} (h1 : (-2147483648 : Int) ≤ n) (h2 : n ≤ 2147483647) : (Int32.ofInt n).toInt = n := by
  rw [Int32.toInt_ofInt]
  exact k32_bm h1 h2
end KS1OK
