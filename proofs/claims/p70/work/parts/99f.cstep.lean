/-- what a pool's places say -/
def cPok (own : String) (P : cPl) (cl : List vw_C) (aty : List FieldType) (lw : List Cond) (ao : List String) : Prop :=
  (∀ q ∈ P.1, ∃ C Tf N, cl[q.2.1]? = some (C, Tf, N) ∧ Nat.blt q.2.1 100 = true ∧ q.2.2 < N ∧ Cond.fieldLink own q.1 (Tf q.2.2).1 (Tf q.2.2).2.1 (Tf q.2.2).2.2.1 ∈ lw ∧ ((Tf q.2.2).2.2.2 = true → (Tf q.2.2).1 = own)) ∧
  (∀ q ∈ P.2.1, ∃ C Tf N, cl[q.2]? = some (C, Tf, N) ∧ Nat.blt q.2 100 = true ∧ Cond.classLink own q.1 C ∈ lw ∧ Cond.instantiable C N ∈ lw ∧ Cond.initialized C ∈ lw ∧ ∀ j, j < N → cdok (Tf j).2.2.1 = true) ∧
  (∀ q ∈ P.2.2.1, ∃ C, aty[q.2]? = some (.object C) ∧ Cond.classLink own q.1 C ∈ lw ∧ C ∈ ao)
/-- what is known while a constructor runs -/
def cKn (cl : List vw_C) (aty : List FieldType) (nw : List Cond) (ao : List String) (D : va_G) (cA : Nat → Nat) (tys : List (ClassId × FieldType)) (U : State) : Prop := va_K D cl tys U ∧ (∀ (k : Nat) (ty : FieldType), aty[k]? = some ty → tys[k]? = some (cA k, ty)) ∧ (∀ w ∈ nw, va_Nw w U) ∧ ∀ C ∈ ao, va_AO C U
theorem cKn_kK {cl : List vw_C} {aty : List FieldType} {nw : List Cond} {ao : List String} {D : va_G} {cA : Nat → Nat} {tys : List (ClassId × FieldType)} {U : State} (aS : Nat → Nat) (h : cKn cl aty nw ao D cA tys U) : kK cl aty [] [] D cA aS U :=
  ⟨h.1.1, fun k ty hk => (h.1.2 k _ (h.2.1 k ty hk)).1, fun w hw => (by cases hw), fun i q hq => (by simp at hq)⟩
theorem kcell_to {D : va_G} {cA : Nat → ClassId} {T : kT} {a : Nat} {H : Heap} {V V' : Nat → Value} (hb : Nat.blt T.1 100 = true) (h : kcell D cA T a H V) (hv : ∀ j, j < T.2.1 → V j = V' j) : kcell D cA T a H V' := by
  unfold kcell at h ⊢
  rw [hb] at h ⊢
  exact t_OB.to h hv
section CSTEP
variable {p : Program} {l : Launch} {e : Env} {R : Room} {s : State} {m : MethodId} {args : Array Value} {below : List Frame} {meth : Method} {c : Code} {H H0 : Heap} {locs : List Loc} {Q : State → Prop}
variable {cc : ByteArray} {pc : Nat} {ls : Array Slot} {cl : List vw_C} {aty : List FieldType} {nw lw : List Cond} {ao : List String} {tys : List (ClassId × FieldType)} {D : va_G} {cA : Nat → Nat}
set_option maxHeartbeats 4000000 in
theorem cstep_ok {own : String} {P : cPl} {n nL mc ms pc' : Nat} {ins : Instr} {S S' : cSt} (hexec : p.tables.exec = Jvm.exec) (hb : c.code = cc) (hts : ∀ w ∈ lw, w.before args s = true) (hcl : kclok cl lw) (hown : s.vm.findClass own = some m.cls) (hin2 : meth.name = "<init>") (hK : cKn cl aty nw ao D cA tys s) (haty : aty = [.int, .boolean, .byte, .long, .object "SilenceMatch$Row", .object "SilenceMatch$Green", .object "SilenceMatch$Acts"]) (hcl0 : (∃ Tf N, cl[7]? = some ("SilenceMatch$Row", Tf, N)) ∧ (∃ Tf N, cl[3]? = some ("SilenceMatch$Green", Tf, N)) ∧ ∃ Tf N, cl[0]? = some ("SilenceMatch$Acts", Tf, N)) (haw : Cond.arrayClass .int ∈ lw ∧ Cond.arrayClass .boolean ∈ lw ∧ Cond.arrayClass .byte ∈ lw ∧ Cond.arrayClass .long ∈ lw) (hP : cPok own P cl aty lw ao) (hR : R.cells = mc ∧ R.slots = ms) (h : cHp D cA n H0 S.1 H) (hsz : n ≤ H.size) (hlv : lv_has ls nL (cLv n S.2.1)) (hd : decode cc pc = .ok (ins, cln ins)) (hs : cstep cl P nL mc ms pc ins (cln ins) S = some (pc', S'))
    (kk : ∀ H1 L ls1, cHp D cA n H0 S'.1 H1 → lv_has ls1 nL (cLv n S'.2.1) → (∀ q ∈ L, n ≤ q.base) → W p l e R s m args below meth c H1 (locs ++ L) S'.2.2.2.1 S'.2.2.2.2 Q (F0 m pc' ls1 (cSk n S'.2.2.1))) : W p l e R s m args below meth c H locs S.2.2.2.1 S.2.2.2.2 Q (F0 m pc ls (cSk n S.2.2.1)) := by
  obtain ⟨cs, loc, st, ce, sl⟩ := S
  dsimp only at h hlv ⊢
  have k0 : ∀ {ls1 : Array Slot}, S'.1 = cs → S'.2.2.2 = (ce, sl) → lv_has ls1 nL (cLv n S'.2.1) → W p l e R s m args below meth c H locs ce sl Q (F0 m pc' ls1 (cSk n S'.2.2.1)) := fun e1 e2 hl => by
    have := kk H [] _ (by rw [e1]; exact h) hl (fun q hq => by cases hq)
    rw [List.append_nil, e2] at this
    exact this
  unfold cstep at hs
  split at hs
  -- aload_n
  · rename_i i
    split at hs
    · rename_i v h1
      split at hs
      · rename_i h2
        cases hs
        obtain ⟨k, z⟩ := v
        have e : k = 2 := Nat.beq_eq.mp h2
        subst e
        exact lv_aload_n hexec hb hd rfl (cLv_at hlv h1) (k0 rfl rfl hlv)
      · cases hs
    · cases hs
  -- iload_n
  · rename_i i
    split at hs
    · rename_i v h1
      split at hs
      · rename_i h2
        cases hs
        obtain ⟨k, z⟩ := v
        have e : k = 0 := Nat.beq_eq.mp h2
        subst e
        exact lv_iload_n hexec hb hd rfl (cLv_at hlv h1) (k0 rfl rfl hlv)
      · cases hs
    · cases hs
  -- iconst
  · rename_i z
    cases hs
    exact lv_iconst hexec hb hd rfl (k0 rfl rfl hlv)
  -- bipush
  · rename_i z
    split at hs
    · rename_i h1
      cases hs
      have h1 := of_decide_eq_true h1
      refine lv_bipush hexec hb hd (v := Int32.ofInt z) ?_ (k0 rfl rfl hlv)
      apply Int32.toInt_inj.mp
      rw [Int8.toInt_toInt32, Int8.toInt_ofInt, show Int8.size = 256 from rfl, Int.bmod_eq_of_le (by omega) (by omega), c32 (by omega) (by omega)]
    · cases hs
  -- sipush
  · rename_i z
    split at hs
    · rename_i h1
      cases hs
      have h1 := of_decide_eq_true h1
      refine lv_sipush hexec hb hd (v := Int32.ofInt z) ?_ (k0 rfl rfl hlv)
      apply Int32.toInt_inj.mp
      rw [Int16.toInt_toInt32, Int16.toInt_ofInt, show Int16.size = 65536 from rfl, Int.bmod_eq_of_le (by omega) (by omega), c32 (by omega) (by omega)]
    · cases hs
  -- dup
  · split at hs
    · rename_i v st' h1
      split at hs
      · cases hs
      · rename_i h2
        cases hs
        dsimp only at h1
        subst h1
        exact lv_dup hexec hb hd (ccat h2) (k0 rfl rfl hlv)
    · cases hs
  -- istore_n
  · rename_i i
    split at hs
    · rename_i v st' h1
      split at hs
      · rename_i h2
        cases hs
        dsimp only at h1
        subst h1
        simp only [Bool.and_eq_true] at h2
        obtain ⟨k, z⟩ := v
        have e : k = 0 := Nat.beq_eq.mp h2.1
        subst e
        exact lv_istore_n hexec hb hd rfl hlv (Nat.blt_eq.mp h2.2) rfl (fun ls' hl' => k0 rfl rfl (cLv_put hl'))
      · cases hs
    · cases hs
  -- goto
  · rename_i off
    split at hs
    · rename_i t h1
      cases hs
      exact lv_goto hexec hb hd (cnat_ok h1) (k0 rfl rfl hlv)
    · cases hs
  -- if_icmp
  · rename_i off
    split at hs
    · rename_i y x st' h1
      dsimp only at h1
      subst h1
      split at hs
      · cases hs
      · rename_i h2
        have h2 := of_decide_eq_true h2
        have ex := c32 (z := x) (by omega) (by omega)
        have ey := c32 (z := y) (by omega) (by omega)
        have hiff : Int32.ofInt y ≤ Int32.ofInt x ↔ y ≤ x := by
          rw [Int32.le_iff_toInt_le, ex, ey]
        split at hs
        · cases hs
        · rename_i t h4
          split at hs
          · rename_i h3
            have h3 := of_decide_eq_true h3
            cases hs
            exact lv_icmp_ge (x := Int32.ofInt x) (y := Int32.ofInt y) hexec hb hd (cnat_ok h4) (fun _ => k0 rfl rfl hlv) (fun hn => absurd (hiff.mpr h3) hn)
          · rename_i h3
            have h3 := of_decide_eq_false h3
            cases hs
            exact lv_icmp_ge (x := Int32.ofInt x) (y := Int32.ofInt y) hexec hb hd (cnat_ok h4) (fun hy => absurd (hiff.mp hy) h3) (fun _ => k0 rfl rfl hlv)
    · cases hs
  -- new
  · rename_i idx
    split at hs
    · rename_i ci h1
      split at hs
      · rename_i C Tf N h2
        split at hs
        · rename_i h3
          cases hs
          simp only [Bool.and_eq_true] at h3
          obtain ⟨C', Tf', N', g1, g2, g3, g4, g5, g6⟩ := hP.2.1 _ (cfnd_mem h1)
          have e : (C', Tf', N') = (C, Tf, N) := Option.some.inj (g1.symm.trans h2)
          cases e
          refine q_new (cA := cA) hexec hb hts hcl hown g3 g4 g5 hK.1 g1 g2 (by rw [hR.1]; exact Nat.le_of_ble_eq_true h3.1) (by rw [hR.2]; exact Nat.le_of_ble_eq_true h3.2) hd (fun H1 V w1 w2 w3 w4 => ?_)
          have hk := kk H1 [] ls (cHp_push h w3 w4 (kcell_to g2 w1 (fun j hj => by
            obtain ⟨ty, y1, y2⟩ := w2 j hj
            rw [y2]
            unfold cVal
            dsimp only
            rw [cmap_get (f := fun j => cdef (Tf j).2.2.1) (List.mem_range.mpr hj)]
            exact (cdef_ok (g6 j hj) y1).symm))) hlv (fun q hq => by cases hq)
          rw [List.append_nil] at hk
          rw [show H.size = n + cs.length from h.1]
          exact hk
        · cases hs
      · cases hs
    · cases hs
  -- newarray
  · rename_i t
    split at hs
    · rename_i q N st' h1 h2
      dsimp only at h2
      subst h2
      split at hs
      · rename_i h3
        cases hs
        simp only [Bool.and_eq_true] at h3
        have hN := Nat.le_of_ble_eq_true h3.2.2
        have key : ∀ (ty : FieldType) (k : Nat) (d : cV), newarray.typeOf t = ty → (∀ C, ty ≠ .object C) → Cond.arrayClass ty ∈ lw → aty[k]? = some ty → N * componentBytes ty ≤ 536870912 → (∀ n, cval n d = defaultValue ty) → q = (k, d) → W p l e R s m args below meth c H locs ce sl Q (F0 m pc ls (cSk n ((0, .ofNat N) :: st'))) := by
          intro ty k d y1 y2 y3 y4 y5 y6 y7
          subst y7
          refine q_newa (cA := cA) (k := k) (N := N) (n := Int32.ofInt (.ofNat N)) hexec hb hts y1 y2 y3 hK.1 (hK.2.1 _ _ y4) (c32 (show _ ≤ (N : Int) by omega) (show (N : Int) ≤ _ by omega)) y5 (by rw [hR.1]; exact Nat.le_of_ble_eq_true h3.1) (by rw [hR.2]; exact Nat.le_of_ble_eq_true h3.2.1) hd (fun H1 w1 w3 w4 => ?_)
          have hk := kk H1 [] ls (cHp_push h w3 w4 (by
            have ev : (fun _ => defaultValue ty) = cVal n (100 + k, N, [], d) := by
              funext j
              exact (y6 n).symm
            rw [ev] at w1
            exact w1)) hlv (fun q hq => by cases hq)
          rw [List.append_nil] at hk
          rw [show H.size = n + cs.length from h.1]
          exact hk
        cases t <;> simp only [caty] at h1 <;> first
          | (cases h1; done)
          | exact key .int 0 (0, 0) rfl (fun _ h => by cases h) haw.1 (by rw [haty]; rfl) (by show N * 4 ≤ _; omega) (fun _ => rfl) (Option.some.inj h1).symm
          | exact key .boolean 1 (0, 0) rfl (fun _ h => by cases h) haw.2.1 (by rw [haty]; rfl) (by show N * 1 ≤ _; omega) (fun _ => rfl) (Option.some.inj h1).symm
          | exact key .byte 2 (0, 0) rfl (fun _ h => by cases h) haw.2.2.1 (by rw [haty]; rfl) (by show N * 1 ≤ _; omega) (fun _ => rfl) (Option.some.inj h1).symm
          | exact key .long 3 (1, 0) rfl (fun _ h => by cases h) haw.2.2.2 (by rw [haty]; rfl) (by show N * 8 ≤ _; omega) (fun _ => rfl) (Option.some.inj h1).symm
      · cases hs
    · cases hs
  -- anewarray
  · rename_i idx
    split at hs
    · rename_i k N st' h1 h2
      dsimp only at h2
      subst h2
      split at hs
      · rename_i h3
        cases hs
        simp only [Bool.and_eq_true] at h3
        have hN := Nat.le_of_ble_eq_true h3.2.2
        obtain ⟨C, g1, g2, g3⟩ := hP.2.2 _ (cfnd_mem h1)
        refine q_anew (cA := cA) (k := k) (N := N) (n := Int32.ofInt (.ofNat N)) hexec hb hts hown g2 (hK.2.2.2 C g3) hK.1 (hK.2.1 _ _ g1) (c32 (show _ ≤ (N : Int) by omega) (show (N : Int) ≤ _ by omega)) (by omega) (by rw [hR.1]; exact Nat.le_of_ble_eq_true h3.1) (by rw [hR.2]; exact Nat.le_of_ble_eq_true h3.2.1) hd (fun H1 w1 w3 w4 => ?_)
        have hk := kk H1 [] ls (cHp_push h w3 w4 w1) hlv (fun q hq => by cases hq)
        rw [List.append_nil] at hk
        rw [show H.size = n + cs.length from h.1]
        exact hk
      · cases hs
    · cases hs
  -- getfield
  · rename_i idx
    split at hs
    · rename_i q k st' h1 h2
      dsimp only at h2
      subst h2
      split at hs
      · rename_i cell h3
        split at hs
        · rename_i h4
          cases hs
          simp only [Bool.and_eq_true] at h4
          dsimp only at h3
          obtain ⟨C, Tf, N, g1, g2, g3, g4, -⟩ := hP.1 _ (cfnd_mem h1)
          have e := Nat.beq_eq.mp h4.1
          have hc := h.2.2 k cell h3
          exact r_get (T := (cell.1, cell.2.1, [], [])) (j := q.2) hexec hb hts hcl hown (cKn_kK (fun _ => 0) hK) (by show cl[cell.1]? = _; rw [e]; exact g1) (by show Nat.blt cell.1 100 = true; rw [e]; exact g2) g3 (Nat.blt_eq.mp h4.2) (hts _ g4) hc hd (k0 rfl rfl hlv)
        · cases hs
      · cases hs
    · cases hs
  -- putfield
  · rename_i idx
    split at hs
    · rename_i q v k st' h1 h2
      dsimp only at h2
      subst h2
      split at hs
      · rename_i cell C Tf N h3 h3b
        split at hs
        · rename_i h4
          cases hs
          simp only [Bool.and_eq_true] at h4
          dsimp only at h3
          obtain ⟨C', Tf', N', g1, g2, g3, g4, g5⟩ := hP.1 _ (cfnd_mem h1)
          have e0 : (C', Tf', N') = (C, Tf, N) := Option.some.inj (g1.symm.trans h3b)
          cases e0
          have ee := Nat.beq_eq.mp h4.1
          have eN := Nat.beq_eq.mp h4.2.2.1
          have hc := h.2.2 k cell h3
          obtain ⟨ty, y1, y2, y3⟩ := cfit_ok (n := n) h4.2.2.2
          have hkl : k < cs.length := (List.getElem?_eq_some_iff.mp h3).1
          have fin : ∀ (H1 : Heap) (i : Nat), kcell D cA (cell.1, cell.2.1, [], []) (n + k) H1 (updV (cVal n cell) q.2 (cval n v)) → H1.size = H.size → (∀ r, r ≠ n + k → H1[r]? = H[r]?) → W p l e R s m args below meth c H1 (locs ++ [⟨n + k, i⟩]) ce sl Q (F0 m (pc + 3) ls (cSk n st')) := fun H1 i w1 w2 w3 =>
            kk H1 [⟨n + k, i⟩] ls (cHp_set (c := (cell.1, cell.2.1, (q.2, v) :: cell.2.2.1, cell.2.2.2)) h hkl w2 w3 (by rw [cVal_upd]; exact w1)) hlv (fun r hr => by
              have e9 : r = ⟨n + k, i⟩ := by simpa using hr
              rw [e9]
              exact Nat.le_add_right n k)
          cases hfin : (Tf q.2).2.2.2 with
          | true =>
            rw [← ee] at g1 g2
            rw [← eN] at g1 g3
            exact q_putF (a := n + k) hexec hb hts hcl hown hK.1 g1 g2 g3 (hts _ g4) hfin hin2 (g5 hfin) y1 y2 y3 hc hd fin
          | false =>
            exact r_put (T := (cell.1, cell.2.1, [], [])) (a := n + k) hexec hb hts hcl hown (cKn_kK (fun _ => 0) hK) (by show cl[cell.1]? = _; rw [ee]; exact g1) (by show Nat.blt cell.1 100 = true; rw [ee]; exact g2) g3 eN (hts _ g4) hfin y1 y2 y3 hc hd fin
        · cases hs
      · cases hs
    · cases hs
  -- iastore
  · split at hs
    · rename_i z i k st' h1
      dsimp only at h1
      subst h1
      split at hs
      · rename_i cell h3
        split at hs
        · rename_i h4
          cases hs
          simp only [Bool.and_eq_true] at h4
          dsimp only at h3
          have ee := Nat.beq_eq.mp h4.1
          have hi := Nat.blt_eq.mp h4.2.1
          have hi2 := Nat.le_of_ble_eq_true h4.2.2
          have hc := h.2.2 k cell h3
          have hkl : k < cs.length := (List.getElem?_eq_some_iff.mp h3).1
          exact r_ast (T := (cell.1, cell.2.1, [], [])) (a := n + k) (ins := .iastore) (ty := .int) (v := .int (Int32.ofInt z)) (i := Int32.ofInt (.ofNat i)) (z := i) hexec hb (cKn_kK (fun _ => 0) hK) (by show aty[cell.1 - 100]? = _; rw [ee, haty]; rfl) (by show Nat.blt cell.1 100 = false; rw [ee]; rfl) rfl trivial (c32 (show _ ≤ (i : Int) by omega) (show (i : Int) ≤ _ by omega)) hi hc hd (fun H1 i0 w1 w2 w3 =>
            kk H1 [⟨n + k, i0⟩] ls (cHp_set (c := (cell.1, cell.2.1, (i, (0, z)) :: cell.2.2.1, cell.2.2.2)) h hkl w2 w3 (by rw [cVal_upd]; exact w1)) hlv (fun r hr => by
              have e9 : r = ⟨n + k, i0⟩ := by simpa using hr
              rw [e9]
              exact Nat.le_add_right n k))
        · cases hs
      · cases hs
    · cases hs
  -- aastore
  · split at hs
    · rename_i v i k st' h1
      dsimp only at h1
      subst h1
      split at hs
      · rename_i cell w h3 h3w
        split at hs
        · rename_i h4
          cases hs
          simp only [Bool.and_eq_true, Bool.or_eq_true] at h4
          dsimp only at h3 h3w
          have hi := Nat.blt_eq.mp h4.1
          have hi2 := Nat.le_of_ble_eq_true h4.2.1
          have hc := h.2.2 k cell h3
          have hw := h.2.2 v w h3w
          have hkl : k < cs.length := (List.getElem?_eq_some_iff.mp h3).1
          have key : ∀ (kt ci : Nat) (C : String) (Tf : u_T) (N : Nat), aty[kt]? = some (.object C) → cl[ci]? = some (C, Tf, N) → Nat.blt ci 100 = true → cell.1 = 100 + kt → w.1 = ci → W p l e R s m args below meth c H locs ce sl Q (F0 m pc ls (cSk n ((2, .ofNat v) :: (0, .ofNat i) :: (2, .ofNat k) :: st'))) := by
            intro kt ci C Tf N y1 y2 y3 y4 y5
            obtain ⟨c1, c2, c3, c4⟩ := cell
            obtain ⟨w1, w2, w3, w4⟩ := w
            dsimp only at y4 y5 hc hw hi
            subst y4
            subst y5
            exact q_aast (a := n + k) (v := n + v) (k := kt) (i := Int32.ofInt (.ofNat i)) (z := i) hexec hb hK.1 (hK.2.1 _ _ y1) y2 y3 hw hc (c32 (show _ ≤ (i : Int) by omega) (show (i : Int) ≤ _ by omega)) hi hd (fun H1 i0 x1 x2 x3 =>
              kk H1 [⟨n + k, i0⟩] ls (cHp_set (c := (100 + kt, c2, (i, (2, .ofNat v)) :: c3, c4)) h hkl x2 x3 (by rw [cVal_upd (c := (100 + kt, c2, c3, c4))]; exact x1)) hlv (fun r hr => by
                have e9 : r = ⟨n + k, i0⟩ := by simpa using hr
                rw [e9]
                exact Nat.le_add_right n k))
          rcases h4.2.2 with y | y | y
          · obtain ⟨Tf, N, hh⟩ := hcl0.1
            exact key 4 7 _ Tf N (by rw [haty]; rfl) hh rfl (Nat.beq_eq.mp y.1) (Nat.beq_eq.mp y.2)
          · obtain ⟨Tf, N, hh⟩ := hcl0.2.1
            exact key 5 3 _ Tf N (by rw [haty]; rfl) hh rfl (Nat.beq_eq.mp y.1) (Nat.beq_eq.mp y.2)
          · obtain ⟨Tf, N, hh⟩ := hcl0.2.2
            exact key 6 0 _ Tf N (by rw [haty]; rfl) hh rfl (Nat.beq_eq.mp y.1) (Nat.beq_eq.mp y.2)
        · cases hs
      · cases hs
    · cases hs
  -- iinc
  · rename_i i z
    split at hs
    · rename_i x h1
      split at hs
      · rename_i h2
        cases hs
        simp only [Bool.and_eq_true, decide_eq_true_eq] at h2
        have hm : (i, cval n (0, x)) ∈ cLv n loc := List.mem_map.mpr ⟨(i, (0, x)), cloc_mem h1, rfl⟩
        obtain ⟨kx, hkx⟩ := List.getElem?_of_mem hm
        refine lv_iinc (x := Int32.ofInt x) (v := Int32.ofInt (x + z)) hexec hb hd hlv hkx ?_ (Nat.blt_eq.mp h2.2) rfl (fun ls' hl' => k0 rfl rfl (cLv_put hl'))
        rw [Int32.ofInt_add]
      · cases hs
    · cases hs
  · cases hs
end CSTEP
