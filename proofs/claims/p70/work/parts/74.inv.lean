section KINV2
variable {p : Program} {l : Launch} {e : Env} {R : Room} {s : State} {m : MethodId} {args : Array Value} {below : List Frame} {meth : Method} {c : Code} {H : Heap} {locs : List Loc} {cells slots : Nat} {Q : State → Prop}
variable {cc : ByteArray} {pc : Nat} {ls : Array Slot} {rest : List Value} {cl : List vw_C} {aty : List FieldType} {nw lg : List Cond} {sk : kSk} {cA aS : Nat → Nat} {mt : List kMd} {X : State → Heap → Prop} {lo : Nat}
variable {D : va_G} {tt : List kT} {Ty : Nat → Nat → Prop} {env : List Int} {ren : List Nat} {S : kS} {lv : List (Nat × Value)} {st : List Value}
/-- a row copied -/
theorem r_copy {own : String} {index a b na nb : Nat} {ca cb : ClassId} {V V' : Nat → Value} {ty : FieldType} {sp dp n : Int32} (hexec : p.tables.exec = Jvm.exec) (hb : c.code = cc) (hml : c.maxLocals = ls.size) (hown : s.vm.findClass own = some m.cls) (hlink : (Cond.methodLink own index arraycopyName).before args s = true) (hnat : (Cond.native arraycopyName).before args s = true) (hstat : (Cond.static arraycopyName).before args s = true) (hini : (Cond.initialized "java/lang/System").before args s = true)
    (hA : ArrOfT s ca ty) (hB : ArrOfT s cb ty) (hprim : refKind ty = false) (hc0 : H[a]? = some (arrV ca na V)) (hc1 : H[b]? = some (arrV cb nb V'))
    (h1 : 0 ≤ sp.toInt) (h2 : 0 ≤ dp.toInt) (h3 : 0 ≤ n.toInt) (h4 : sp.toInt + n.toInt ≤ na) (h5 : dp.toInt + n.toInt ≤ nb) (hfit : ∀ i, i < na → fits ty (V i) = true ∧ ((∃ w, V i = .int w) ∨ ∃ w, V i = .long w))
    (hframes : 1 ≤ R.frames) (hlocals : (rest.map fun v => v.category).sum + (nativeFrameWords "java/lang/System" "arraycopy" 5 + 11) ≤ R.locals) (hdg : decode cc pc = .ok (.invokestatic index, 3))
    (kk : ∀ (H1 : Heap) (L : List Loc), H1[b]? = some (arrV cb nb (va_cpy V V' sp.toInt.toNat dp.toInt.toNat n.toInt.toNat)) → H1.size = H.size → (∀ q, q ≠ b → H1[q]? = H[q]?) → (∀ q ∈ L, q.base = b) → W p l e R s m args below meth c H1 (locs ++ L) cells slots Q (F0 m (pc + 3) ls rest)) : W p l e R s m args below meth c H locs cells slots Q (F0 m pc ls (.int n :: .int dp :: .ref b :: .int sp :: .ref a :: rest)) := by
  intro T hT X
  have c1 : ∀ z : Int32, z.toNatClampNeg = z.toInt.toNat := fun z => rfl
  have nl : ∀ z : Int32, 0 ≤ z.toInt → ¬ z < 0 := fun z hz hlt => by
    have := Int32.lt_iff_toInt_lt.mp hlt
    have e0 : (0 : Int32).toInt = 0 := rfl
    omega
  obtain ⟨-, k0, hk0, cm0, hkk0⟩ := hA na V
  obtain ⟨-, k1, hk1, cm1, hkk1⟩ := hB nb V'
  obtain ⟨vm', X', step⟩ := X.arraycopy hexec hown hlink hnat hstat hini (src := a) (dst := b) (cs := arrV ca na V) (cd := arrV cb nb V') (srcPos := sp) (destPos := dp) (n := n) (by rw [hT]; exact hc0) (by rw [hT]; exact hc1)
    (fun _ h => by cases h) (fun _ h => by cases h) (fun h => by cases h) (fun h => by cases h) hk0 hk1 hkk0 hkk1 (by simp [hprim]) (nl sp h1) (nl dp h2) (nl n h3)
    (by rw [arrV_size]; omega)
    (by rw [arrV_size]; omega)
    (fun vm₁ _ i hi => by
      rw [c1] at hi
      have hi2 : sp.toNatClampNeg + i < na := by rw [c1]; omega
      have e : (arrV ca na V).slots.getD (sp.toNatClampNeg + i) .null = V (sp.toNatClampNeg + i) := by
        rw [Array.getD_eq_getD_getElem?, arrV_read _ _ hi2]
        rfl
      obtain ⟨f1, f2⟩ := hfit _ hi2
      refine ⟨?_, ?_⟩
      · rw [e]
        exact f1
      · rw [e]
        rcases f2 with ⟨w, f2⟩ | ⟨w, f2⟩ <;> rw [f2] <;> exact trivial)
    (g := F0 m pc ls (.int n :: .int dp :: .ref b :: .int sp :: .ref a :: rest)) rfl (by rw [hml]) (rest := rest) rfl (by rw [hb]; exact hdg) hframes (by show 2 * 0 + _ + _ ≤ _; omega)
  have e1 : copied (arrV ca na V) (arrV cb nb V') sp dp n = arrV cb nb (va_cpy V V' sp.toInt.toNat dp.toInt.toNat n.toInt.toNat) := va_copied (fun z => z) ca cb V V' (sp := sp.toInt.toNat) (dp := dp.toInt.toNat) (n := n.toInt.toNat) (by omega)
  rw [e1] at X' step
  have hl : b < H.size := (Array.getElem?_eq_some_iff.mp hc1).1
  obtain ⟨t, a1, b1⟩ := kk (H.setIfInBounds b (arrV cb nb (va_cpy V V' sp.toInt.toNat dp.toInt.toNat n.toInt.toNat))) _ (by simp [Array.getElem?_setIfInBounds, hl]) (by simp) (fun q hq => by simp [Array.getElem?_setIfInBounds, Ne.symm hq]) (fun q hq => by
    obtain ⟨z, -, hz⟩ := List.mem_map.mp hq
    rw [← hz]) _ (by rw [← hT]; rfl) X'
  exact ⟨t, step t a1, b1⟩
/-- a copied row is as its type says, and only rows of that type change -/
theorem kcopy_core {a b t k : Nat} {T : kT} {V V' : Nat → Value} {sp dp n : Nat} {P : kP} {H1 : Heap} {wr : kW} (hTy : kTyp tt Ty) (hG : kgood D cA tt Ty lo H) (h : kst D cA tt Ty env ren S H lv st) (htb : Ty b t) (hT : tt[t]? = some T) (hyt : kyf t = true) (hk : Nat.blt T.1 100 = false) (hr : T.2.2.1 = [(0, 1, k, P)]) (hse : T.2.2.2 = []) (hkN : k = T.2.1) (hv : kvals Ty T V) (hv' : kvals Ty T V') (hc' : kcell D cA T b H V') (hs : sp + n ≤ T.2.1)
    (hw : ∃ w ∈ wr, w.1 = t ∧ w.2 = none) (hH : H1[b]? = some (arrV (cA (T.1 - 100)) T.2.1 (va_cpy V V' sp dp n))) (ho : ∀ q, q ≠ b → H1[q]? = H[q]?) :
    kgood D cA tt Ty lo H1 ∧ kkp D cA tt Ty wr H H1 ∧ ∀ q ∈ S.2.2.2.2.1.filter (kkeepW S [(t, none)]), kfok D cA tt Ty env ren H1 q := by
  have hcell : kcell D cA T b H1 (va_cpy V V' sp dp n) := by
    unfold kcell
    rw [hk]
    exact hH
  have hvals : kvals Ty T (va_cpy V V' sp dp n) := by
    refine ⟨fun q hq j hj => ?_, fun q hq => by rw [hse] at hq; cases hq⟩
    have hq2 := hq
    rw [hr] at hq2
    have e : q = (0, 1, k, P) := by simpa using hq2
    subst e
    have hj : j < k := hj
    show kpok Ty P (va_cpy V V' sp dp n (0 + 1 * j))
    rw [Nat.zero_add, Nat.one_mul]
    unfold va_cpy
    split
    · have := hv.1 _ hq (sp + (j - dp)) (show sp + (j - dp) < k by omega)
      have this : kpok Ty P (V (0 + 1 * (sp + (j - dp)))) := this
      rwa [Nat.zero_add, Nat.one_mul] at this
    · have := hv'.1 _ hq j hj
      have this : kpok Ty P (V' (0 + 1 * j)) := this
      rwa [Nat.zero_add, Nat.one_mul] at this
  have hkp : ∀ w0 : kW, (∃ w ∈ w0, w.1 = t ∧ w.2 = none) → kkp D cA tt Ty w0 H H1 := by
    intro w0 hw0 a' t' T' W' j ht' hT' hc2 hj hno
    by_cases e : a' = b
    · subst e
      have et := kTyp_eq hTy ht' htb hT' hT
      subst et
      obtain ⟨w, g1, g2, g3⟩ := hw0
      exact absurd g3 (hno w g1 g2).1
    · exact ⟨W', kcell_kept hc2 (ho a' e), rfl⟩
  refine ⟨⟨fun a' t' T' ht' hT' => ?_, kY_kept hTy hG.2 htb hT hyt ho⟩, hkp wr hw, fun q hq => ?_⟩
  · by_cases e : a' = b
    · subst e
      have et := kTyp_eq hTy ht' htb hT' hT
      subst et
      have eT : T' = T := Option.some.inj (hT'.symm.trans hT)
      subst eT
      exact ⟨(hG.1 a' t' T' ht' hT').1, _, hcell, hvals⟩
    · obtain ⟨g1, W', g2, g3⟩ := hG.1 a' t' T' ht' hT'
      exact ⟨g1, W', kcell_kept g2 (ho a' e), g3⟩
  · obtain ⟨q1, q2⟩ := List.mem_filter.mp hq
    exact kkeepW_ok (lo := lo) hTy h (hkp [(t, none)] ⟨(t, none), List.mem_cons_self, rfl, rfl⟩) (h.2.2.2.2.2 q q1) q2
theorem k_nat : nativeFrameWords "java/lang/System" "arraycopy" 5 + 11 ≤ 32 := by decide +kernel
end KINV2
