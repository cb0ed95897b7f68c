/-! BY HAND: Acts -/
section HACT
variable {p : Program} {l : Launch} {e : Env} {s : State} {m : MethodId} {args : Array Value} {below : List Frame} {meth : Method} {c : Code} {H H0 H1 : Heap} {locs : List Loc}
variable {cl : List vw_C} {aty : List FieldType} {nw lg : List Cond} {sk : kSk} {D : va_G} {cA aS : Nat → Nat} {tt : List kT} {Ty : Nat → Nat → Prop} {lo : Nat} {X : State → Heap → Prop} {C : kCt} {zs : List Int} {as : List Nat}
/-- the end of a method that gives nothing -/
theorem kvoid {y : MethodName} {b : ByteArray} {mL pc : Nat} {ls : Array Slot} {lv : List (Nat × Value)} {st : List Value} (hq : (([], [], none, [], [], []) : kCs) ∈ C.2.2.2.1) (hC : C.2.1.2.2.2.2.2 = [] ∨ True) (hs : kst D cA tt Ty zs as C.2.1 H0 lv st) (hcx : kCtx p cl aty lg nw sk D cA aS X y b mL none s m args meth c) (hm : kmov D cA tt Ty lo C.2.2.2.2.1 s.heap H locs) (hd : decode b pc = .ok (.return_, 1)) : kOwe p l e D cA tt Ty lo C zs as s m args below meth c H locs pc ls [] := by
  obtain ⟨h1, h2, h3, h4, h5, h6, h7, h8, h9⟩ := hcx
  refine W.vret h1 h2 h6 (fun t ht _ => ⟨none, _, [], [], rfl, hq, ?_, by rw [ht]; exact hm.1, by rw [ht]; exact hm.2.2.1, by rw [ht]; exact hm.2.1⟩) hm.2.2.2 hd h7
  refine ⟨?_, (fun g hg => by cases hg), ?_, trivial, trivial, (fun g hg => by cases hg)⟩
  · show kI (zs ++ []) (C.2.1.1 ++ [])
    rw [List.append_nil, List.append_nil]
    exact hs.1
  · show kRt Ty (as ++ []) (C.2.1.2.1 ++ [])
    rw [List.append_nil, List.append_nil]
    exact hs.2.2.1
end HACT
section HACT2
variable {l : Launch} {D : va_G} {cA aS : Nat → Nat} {Ty : Nat → Nat → Prop} {lo : Nat} {X : State → Heap → Prop}
def kt_12 : kT := (0, 4, [(0, 1, 1, .inl [(0, 40)]), (1, 1, 1, .inr (.inr 13)), (2, 1, 1, .inr (.inr 14)), (3, 1, 1, .inr (.inr 15))], [])
def kt_13 : kT := (101, 40, [(0, 1, 40, .inl [(0, 1)])], [])
def kt_14 : kT := (100, 40, [(0, 1, 40, .inl [(0, 7)])], [])
def kt_15 : kT := (100, 40, [(0, 1, 40, .inl [(0, 19)])], [])
theorem kt12 : k_tt[12]? = some kt_12 := rfl
theorem kt13 : k_tt[13]? = some kt_13 := rfl
theorem kt14 : k_tt[14]? = some kt_14 := rfl
theorem kt15 : k_tt[15]? = some kt_15 := rfl
/-- the four cells of an Acts -/
theorem acts_at {a : Nat} {H : Heap} (hG : kgood D cA k_tt Ty lo H) (ha : Ty a 12) : ∃ (V Vo Vp Vw : Nat → Value) (n : Int32), kcell D cA kt_12 a H V ∧ kcell D cA kt_13 (a + 1) H Vo ∧ kcell D cA kt_14 (a + 2) H Vp ∧ kcell D cA kt_15 (a + 3) H Vw ∧ kvals Ty kt_12 V ∧ kvals Ty kt_13 Vo ∧ kvals Ty kt_14 Vp ∧ kvals Ty kt_15 Vw ∧ V 0 = .int n ∧ 0 ≤ n.toInt ∧ n.toInt ≤ 40 ∧ V 1 = .ref (a + 1) ∧ V 2 = .ref (a + 2) ∧ V 3 = .ref (a + 3) ∧ Ty (a + 1) 13 ∧ Ty (a + 2) 14 ∧ Ty (a + 3) 15 ∧ lo ≤ a := by
  obtain ⟨hlo, V, hc, hv⟩ := hG.1 a 12 _ ha kt12
  obtain ⟨l1, l2, l3⟩ := hG.2.1 a _ V ha kt12 hc
  obtain ⟨n, e0, r, hr, b1, b2⟩ := hv.1 (0, 1, 1, .inl [(0, 40)]) (List.mem_of_getElem? (i := 0) rfl) 0 (by decide)
  have er : r = (0, 40) := by simpa using hr
  subst er
  obtain ⟨q1, e1, t1⟩ := hv.1 (1, 1, 1, .inr (.inr 13)) (List.mem_of_getElem? (i := 1) rfl) 0 (by decide)
  obtain ⟨q2, e2, t2⟩ := hv.1 (2, 1, 1, .inr (.inr 14)) (List.mem_of_getElem? (i := 2) rfl) 0 (by decide)
  obtain ⟨q3, e3, t3⟩ := hv.1 (3, 1, 1, .inr (.inr 15)) (List.mem_of_getElem? (i := 3) rfl) 0 (by decide)
  have f1 : q1 = a + 1 := by
    have : Value.ref q1 = Value.ref (a + 1) := e1.symm.trans l1
    injection this
  have f2 : q2 = a + 2 := by
    have : Value.ref q2 = Value.ref (a + 2) := e2.symm.trans l2
    injection this
  have f3 : q3 = a + 3 := by
    have : Value.ref q3 = Value.ref (a + 3) := e3.symm.trans l3
    injection this
  subst f1; subst f2; subst f3
  obtain ⟨-, Vo, co, vo⟩ := hG.1 _ 13 _ t1 kt13
  obtain ⟨-, Vp, cp, vp⟩ := hG.1 _ 14 _ t2 kt14
  obtain ⟨-, Vw, cw, vw⟩ := hG.1 _ 15 _ t3 kt15
  exact ⟨V, Vo, Vp, Vw, n, hc, co, cp, cw, hv, vo, vp, vw, e0, b1, b2, l1, l2, l3, t1, t2, t3, hlo⟩
/-- an Acts with other rows is good again -/
theorem acts_good {a : Nat} {H H1 : Heap} {V Vo Vw V' Vo' Vp' Vw' : Nat → Value} (hTy : kTyp k_tt Ty) (hG : kgood D cA k_tt Ty lo H) (ha : Ty a 12) (t1 : Ty (a + 1) 13) (t2 : Ty (a + 2) 14) (t3 : Ty (a + 3) 15) (hc : kcell D cA kt_12 a H V) (co : kcell D cA kt_13 (a + 1) H Vo) (cw : kcell D cA kt_15 (a + 3) H Vw) (hc' : kcell D cA kt_12 a H1 V') (co' : kcell D cA kt_13 (a + 1) H1 Vo') (cp' : kcell D cA kt_14 (a + 2) H1 Vp') (cw' : kcell D cA kt_15 (a + 3) H1 Vw') (hv' : kvals Ty kt_12 V') (vo' : kvals Ty kt_13 Vo') (vp' : kvals Ty kt_14 Vp') (vw' : kvals Ty kt_15 Vw') (e1 : V' 1 = V 1) (e2 : V' 2 = V 2) (e3 : V' 3 = V 3) (ho : ∀ q, q ≠ a → q ≠ a + 1 → q ≠ a + 2 → q ≠ a + 3 → H1[q]? = H[q]?) (hrel : ∀ (j : Nat) (n : Int32), j < 40 → Vo' j = .int 1 → Vw' j = .int n → n.toInt ≤ 12) : kgood D cA k_tt Ty lo H1 := by
  have ne : ∀ {x y t t' : Nat} {T T' : kT}, Ty x t → Ty y t' → k_tt[t]? = some T → k_tt[t']? = some T' → t ≠ t' → x ≠ y := fun h1 h2 h3 h4 hne e => by
    subst e
    exact hne (kTyp_eq hTy h1 h2 h3 h4)
  refine kgood_of hTy hG [(a, 12), (a + 1, 13), (a + 2, 14), (a + 3, 15)] ?_ (fun q hq => ho q (hq (a, 12) (List.mem_of_getElem? (i := 0) rfl)) (hq (a + 1, 13) (List.mem_of_getElem? (i := 1) rfl)) (hq (a + 2, 14) (List.mem_of_getElem? (i := 2) rfl)) (hq (a + 3, 15) (List.mem_of_getElem? (i := 3) rfl))) ?_
  · refine List.forall_mem_cons.mpr ⟨⟨Nat.blt_eq.mp rfl, ha, fun T hT => ?_⟩, List.forall_mem_cons.mpr ⟨⟨Nat.blt_eq.mp rfl, t1, fun T hT => ?_⟩, List.forall_mem_cons.mpr ⟨⟨Nat.blt_eq.mp rfl, t2, fun T hT => ?_⟩, List.forall_mem_cons.mpr ⟨⟨Nat.blt_eq.mp rfl, t3, fun T hT => ?_⟩, fun _ h => absurd h List.not_mem_nil⟩⟩⟩⟩
    · cases Option.some.inj (kt12.symm.trans hT); exact ⟨V', hc', hv'⟩
    · cases Option.some.inj (kt13.symm.trans hT); exact ⟨Vo', co', vo'⟩
    · cases Option.some.inj (kt14.symm.trans hT); exact ⟨Vp', cp', vp'⟩
    · cases Option.some.inj (kt15.symm.trans hT); exact ⟨Vw', cw', vw'⟩
  · have lay : ∀ (a' : Nat) (T : kT) (W : Nat → Value), Ty a' 12 → k_tt[12]? = some T → kcell D cA T a' H1 W → W 1 = .ref (a' + 1) ∧ W 2 = .ref (a' + 2) ∧ W 3 = .ref (a' + 3) := by
      intro a' T W h1 h2 h3
      cases Option.some.inj (kt12.symm.trans h2)
      by_cases ea : a' = a
      · subst ea
        obtain ⟨g1, g2, g3⟩ := hG.2.1 a' _ V h1 kt12 hc
        have u1 := kcell_uniq h3 hc' (j := 1) (by decide)
        have u2 := kcell_uniq h3 hc' (j := 2) (by decide)
        have u3 := kcell_uniq h3 hc' (j := 3) (by decide)
        exact ⟨by rw [u1, e1]; exact g1, by rw [u2, e2]; exact g2, by rw [u3, e3]; exact g3⟩
      · exact hG.2.1 a' _ W h1 kt12 (kcell_kept h3 (ho a' ea (ne h1 t1 kt12 kt13 (by decide)) (ne h1 t2 kt12 kt14 (by decide)) (ne h1 t3 kt12 kt15 (by decide))).symm)
    refine ⟨lay, fun a' b' c' T To Tw W Wo Ww j n w1 w2 w3 w4 w5 w6 w7 w8 w9 w10 w11 w12 w13 w14 => ?_⟩
    obtain ⟨g1, -, g3⟩ := lay a' T W w1 w2 w3
    have eb : b' = a' + 1 := by
      have : Value.ref b' = Value.ref (a' + 1) := w4.symm.trans g1
      injection this
    have ec : c' = a' + 3 := by
      have : Value.ref c' = Value.ref (a' + 3) := w5.symm.trans g3
      injection this
    subst eb; subst ec
    cases Option.some.inj (kt12.symm.trans w2)
    cases Option.some.inj (kt13.symm.trans w7)
    cases Option.some.inj (kt15.symm.trans w10)
    by_cases ea : a' = a
    · subst ea
      have uo := kcell_uniq w8 co' (j := j) w12
      have uw := kcell_uniq w11 cw' (j := j) w12
      exact hrel j n w12 (by rw [← uo]; exact w13) (by rw [← uw]; exact w14)
    · have k1 : kcell D cA kt_12 a' H W := kcell_kept w3 (ho a' ea (ne w1 t1 kt12 kt13 (by decide)) (ne w1 t2 kt12 kt14 (by decide)) (ne w1 t3 kt12 kt15 (by decide))).symm
      have k2 : kcell D cA kt_13 (a' + 1) H Wo := kcell_kept w8 (ho _ (ne w6 ha kt13 kt12 (by decide)) (by omega) (ne w6 t2 kt13 kt14 (by decide)) (ne w6 t3 kt13 kt15 (by decide))).symm
      have k3 : kcell D cA kt_15 (a' + 3) H Ww := kcell_kept w11 (ho _ (ne w9 ha kt15 kt12 (by decide)) (ne w9 t1 kt15 kt13 (by decide)) (ne w9 t2 kt15 kt14 (by decide)) (by omega)).symm
      exact hG.2.2 a' _ _ _ _ _ W Wo Ww j n w1 kt12 k1 w4 w5 w6 kt13 k2 w9 kt15 k3 w12 w13 w14
end HACT2
