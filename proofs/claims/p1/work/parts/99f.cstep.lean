/-- what a pool's places say -/
def cPok (own : String) (P : cPl) (cl : List vw_C) (aty : List FieldType) (lw : List Cond) (ao : List String) : Prop :=
  (∀ q ∈ P.1, ∃ C Tf N, cl[q.2.1]? = some (C, Tf, N) ∧ Nat.blt q.2.1 100 = true ∧ q.2.2 < N ∧ Cond.fieldLink own q.1 (Tf q.2.2).1 (Tf q.2.2).2.1 (Tf q.2.2).2.2.1 ∈ lw ∧ ((Tf q.2.2).2.2.2 = true → (Tf q.2.2).1 = own)) ∧
  (∀ q ∈ P.2.1, ∃ C Tf N, cl[q.2]? = some (C, Tf, N) ∧ Nat.blt q.2 100 = true ∧ Cond.classLink own q.1 C ∈ lw ∧ Cond.instantiable C N ∈ lw ∧ Cond.initialized C ∈ lw ∧ ∀ j, j < N → cdok (Tf j).2.2.1 = true) ∧
  (∀ q ∈ P.2.2.1, ∃ C, aty[q.2]? = some (.object C) ∧ Cond.classLink own q.1 C ∈ lw ∧ C ∈ ao)
/-- what is known while a constructor runs -/
def cKn (cl : List vw_C) (aty : List FieldType) (nw : List Cond) (ao : List String) (D : va_G) (cA : Nat → Nat) (tys : List (ClassId × FieldType)) (U : State) : Prop := va_K D cl tys U ∧ (∀ (k : Nat) (ty : FieldType), aty[k]? = some ty → tys[k]? = some (cA k, ty)) ∧ (∀ w ∈ nw, va_Nw w U) ∧ ∀ C ∈ ao, va_AO C U
theorem cKn_kK {cl : List vw_C} {aty : List FieldType} {nw : List Cond} {ao : List String} {D : va_G} {cA : Nat → Nat} {tys : List (ClassId × FieldType)} {U : State} (aS : Nat → Nat) (h : cKn cl aty nw ao D cA tys U) : kK cl aty [] [] D cA aS U :=
  ⟨h.1.1, fun k ty hk => (h.1.2 k _ (h.2.1 k ty hk)).1, fun w hw => (by cases hw), fun i q hq => (by simp at hq)⟩
theorem kcell_to {D : va_G} {cA : Nat → ClassId} {T : kT} {a : Nat} {H : Heap} {V V' : Nat → Value} (hb : Nat.blt T.1 100 = true) (h : kcell D cA T a H V) (hv : ∀ j, j < T.2.1 → V j = V' j) : kcell D cA T a H V' := by
  unfold kcell at h ⊢
  rw [hb] at h ⊢
  exact t_OB.to h hv
section CSTEP
variable {p : Program} {l : Launch} {e : Env} {R : Room} {s : State} {m : MethodId} {args : Array Value} {below : List Frame} {meth : Method} {c : Code} {H H0 : Heap} {locs : List Loc} {Q : State → Prop}
variable {cc : ByteArray} {pc : Nat} {ls : Array Slot} {cl : List vw_C} {aty : List FieldType} {nw lw : List Cond} {ao : List String} {tys : List (ClassId × FieldType)} {D : va_G} {cA : Nat → Nat}
set_option maxHeartbeats 4000000 in
theorem cstep_ok {own : String} {P : cPl} {n nL mc ms pc' : Nat} {ins : Instr} {S S' : cSt} (hexec : p.tables.exec = Jvm.exec) (hb : c.code = cc) (hts : ∀ w ∈ lw, w.before args s = true) (hcl : kclok cl lw) (hown : s.vm.findClass own = some m.cls) (hin2 : meth.name = "<init>") (hK : cKn cl aty nw ao D cA tys s) (haty : aty = [.int, .boolean, .byte, .long, .object "SilenceMatch$Row", .object "SilenceMatch$Green", .object "SilenceMatch$Acts"]) (hcl0 : (∃ Tf N, cl[7]? = some ("SilenceMatch$Row", Tf, N)) ∧ (∃ Tf N, cl[3]? = some ("SilenceMatch$Green", Tf, N)) ∧ ∃ Tf N, cl[0]? = some ("SilenceMatch$Acts", Tf, N)) (haw : Cond.arrayClass .int ∈ lw ∧ Cond.arrayClass .boolean ∈ lw ∧ Cond.arrayClass .byte ∈ lw ∧ Cond.arrayClass .long ∈ lw) (hP : cPok own P cl aty lw ao) (hR : R.cells = mc ∧ R.slots = ms) (h : cHp D cA n H0 S.1 H) (hsz : n ≤ H.size) (hlv : lv_has ls nL (cLv n S.2.1)) (hd : decode cc pc = .ok (ins, cln ins)) (hs : cstep cl P nL mc ms pc ins (cln ins) S = some (pc', S'))
    (kk : ∀ H1 L ls1, cHp D cA n H0 S'.1 H1 → lv_has ls1 nL (cLv n S'.2.1) → (∀ q ∈ L, n ≤ q.base) → W p l e R s m args below meth c H1 (locs ++ L) S'.2.2.2.1 S'.2.2.2.2 Q (F0 m pc' ls1 (cSk n S'.2.2.1))) : W p l e R s m args below meth c H locs S.2.2.2.1 S.2.2.2.2 Q (F0 m pc ls (cSk n S.2.2.1)) := by
  obtain ⟨cs, loc, st, ce, sl⟩ := S
  dsimp only at h hlv ⊢
  have k0 : ∀ {ls1 : Array Slot}, S'.1 = cs → S'.2.2.2 = (ce, sl) → lv_has ls1 nL (cLv n S'.2.1) → W p l e R s m args below meth c H locs ce sl Q (F0 m pc' ls1 (cSk n S'.2.2.1)) := fun e1 e2 hl => by
    have := kk H [] _ (by rw [e1]; exact h) hl (fun q hq => by cases hq)
    rw [List.append_nil, e2] at this
    exact this
  unfold cstep at hs
  split at hs
  -- aload_n
  · rename_i i
    split at hs
    · rename_i v h1
      split at hs
      · rename_i h2
        cases hs
        obtain ⟨k, z⟩ := v
        have e : k = 2 := Nat.beq_eq.mp h2
        subst e
        exact lv_aload_n hexec hb hd rfl (cLv_at hlv h1) (k0 rfl rfl hlv)
      · cases hs
    · cases hs
  -- iload_n
  · rename_i i
    split at hs
    · rename_i v h1
      split at hs
      · rename_i h2
        cases hs
        obtain ⟨k, z⟩ := v
        have e : k = 0 := Nat.beq_eq.mp h2
        subst e
        exact lv_iload_n hexec hb hd rfl (cLv_at hlv h1) (k0 rfl rfl hlv)
      · cases hs
    · cases hs
  -- iconst
  · rename_i z
    cases hs
    exact lv_iconst hexec hb hd rfl (k0 rfl rfl hlv)
  -- bipush
  · rename_i z
    split at hs
    · rename_i h1
      cases hs
      have h1 := of_decide_eq_true h1
      refine lv_bipush hexec hb hd (v := Int32.ofInt z) ?_ (k0 rfl rfl hlv)
      apply Int32.toInt_inj.mp
      rw [Int8.toInt_toInt32, Int8.toInt_ofInt, show Int8.size = 256 from rfl, Int.bmod_eq_of_le (by omega) (by omega), c32 (by omega) (by omega)]
    · cases hs
  -- sipush
  · rename_i z
    split at hs
    · rename_i h1
      cases hs
      have h1 := of_decide_eq_true h1
      refine lv_sipush hexec hb hd (v := Int32.ofInt z) ?_ (k0 rfl rfl hlv)
      apply Int32.toInt_inj.mp
      rw [Int16.toInt_toInt32, Int16.toInt_ofInt, show Int16.size = 65536 from rfl, Int.bmod_eq_of_le (by omega) (by omega), c32 (by omega) (by omega)]
    · cases hs
  -- dup
  · split at hs
    · rename_i v st' h1
      split at hs
      · cases hs
      · rename_i h2
        cases hs
        dsimp only at h1
        subst h1
        exact lv_dup hexec hb hd (ccat h2) (k0 rfl rfl hlv)
    · cases hs
  -- istore_n
  · rename_i i
    split at hs
    · rename_i v st' h1
      split at hs
      · rename_i h2
        cases hs
        dsimp only at h1
        subst h1
        simp only [Bool.and_eq_true] at h2
        obtain ⟨k, z⟩ := v
        have e : k = 0 := Nat.beq_eq.mp h2.1
        subst e
        exact lv_istore_n hexec hb hd rfl hlv (Nat.blt_eq.mp h2.2) rfl (fun ls' hl' => k0 rfl rfl (cLv_put hl'))
      · cases hs
    · cases hs
  -- goto
  · rename_i off
    split at hs
    · rename_i t h1
      cases hs
      exact lv_goto hexec hb hd (cnat_ok h1) (k0 rfl rfl hlv)
    · cases hs
  -- if_icmp
  · rename_i off
    split at hs
    · rename_i y x st' h1
      dsimp only at h1
      subst h1
      split at hs
      · cases hs
      · rename_i h2
        have h2 := of_decide_eq_true h2
        have ex := c32 (z := x) (by omega) (by omega)
        have ey := c32 (z := y) (by omega) (by omega)
        have hiff : Int32.ofInt y ≤ Int32.ofInt x ↔ y ≤ x := by
          rw [Int32.le_iff_toInt_le, ex, ey]
        split at hs
        · rename_i h3
          have h3 := of_decide_eq_true h3
          split at hs
          · rename_i t h4
            cases hs
            exact lv_icmp_ge (x := Int32.ofInt x) (y := Int32.ofInt y) hexec hb hd (cnat_ok h4) (fun _ => k0 rfl rfl hlv) (fun hn => absurd (hiff.mpr h3) hn)
          · cases hs
        · rename_i h3
          have h3 := of_decide_eq_false h3
          cases hs
          by_cases hz : 0 ≤ (pc : Int) + off
          · exact lv_icmp_ge (x := Int32.ofInt x) (y := Int32.ofInt y) (tgt := ((pc : Int) + off).toNat) hexec hb hd (Int.toNat_of_nonneg hz).symm (fun hy => absurd (hiff.mp hy) h3) (fun _ => k0 rfl rfl hlv)
          · sorry
    · cases hs
  all_goals sorry
end CSTEP
