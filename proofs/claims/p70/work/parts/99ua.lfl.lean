/-! THE IMAGES' FLAGS, the same on both sides -/
def lnotf (wr : kW) (t j : Nat) : Bool := wr.all (fun w => match Nat.beq w.1 t with
  | true => match w.2 with
    | none => false
    | some i => match Nat.beq i j with
      | true => false
      | false => true
  | false => true)
theorem lnotf_ok {wr : kW} {t j : Nat} (h : lnotf wr t j = true) : ∀ w ∈ wr, w.1 = t → w.2 ≠ none ∧ w.2 ≠ some j := fun w hw e => by
  have h1 := List.all_eq_true.mp h w hw
  have h2 : Nat.beq w.1 t = true := Nat.beq_eq.mpr e
  simp only [h2] at h1
  cases h3 : w.2 with
  | none => simp only [h3] at h1; cases h1
  | some i =>
    simp only [h3] at h1
    refine ⟨(fun h => by cases h), fun h => ?_⟩
    have e2 : i = j := Option.some.inj h
    have e3 : Nat.beq i j = true := Nat.beq_eq.mpr e2
    simp only [e3] at h1
    cases h1
section LFL
variable {D : va_G} {cA : Nat → ClassId} {tt : List kT} {Ty : Nat → Nat → Prop} {env : List Int} {ren : List Nat} {S : kS} {H H' : Heap} {lv : List (Nat × Value)} {st : List Value}
theorem kkp_fld {wr : kW} {a t lo j : Nat} {T : kT} {V' : Nat → Value} (hG : kgood D cA tt Ty lo H) (hk : kkp D cA tt Ty wr H H') (hw : lnotf wr t j = true) (ht : Ty a t) (hT : tt[t]? = some T) (hj : j < T.2.1) (hc : kcell D cA T a H' V') : ∃ V, kcell D cA T a H V ∧ V' j = V j := by
  obtain ⟨-, V, c1, -⟩ := hG.1 a t T ht hT
  obtain ⟨V2, c2, e2⟩ := hk a t T V j ht hT c1 hj (lnotf_ok hw)
  exact ⟨V, c1, (kcell_uniq hc c2 hj).trans e2⟩
def lfl (D : va_G) (cA : Nat → ClassId) (tt : List kT) (a a1 a5 a6 : Nat) (H : Heap) : Prop := (∀ (T : kT) (V : Nat → Value), tt[0]? = some T → kcell D cA T a H V → V 12 = .ref a5) ∧ (∀ (T : kT) (V : Nat → Value), tt[36]? = some T → kcell D cA T a1 H V → V 3 = .ref a6) ∧ ∀ (T T' : kT) (V V' : Nat → Value), tt[35]? = some T → tt[39]? = some T' → kcell D cA T a5 H V → kcell D cA T' a6 H V' → ∀ j, j < 3 → V j = V' j
def lflw (wr : kW) : Bool := lnotf wr 0 12 && (lnotf wr 36 3 && (lnot wr 35 && lnot wr 39))
theorem lfl_kkp {wr : kW} {a a1 a5 a6 lo : Nat} (hn0 : ∀ T : kT, tt[0]? = some T → 12 < T.2.1) (hn6 : ∀ T : kT, tt[36]? = some T → 3 < T.2.1) (hn5 : ∀ T : kT, tt[35]? = some T → T.2.1 = 3) (hn9 : ∀ T : kT, tt[39]? = some T → T.2.1 = 3) (hG : kgood D cA tt Ty lo H) (hk : kkp D cA tt Ty wr H H') (hw : lflw wr = true) (t0 : Ty a 0) (t1 : Ty a1 36) (t5 : Ty a5 35) (t6 : Ty a6 39) (h : lfl D cA tt a a1 a5 a6 H) : lfl D cA tt a a1 a5 a6 H' := by
  unfold lflw at hw
  simp only [Bool.and_eq_true] at hw
  obtain ⟨w1, w2, w3, w4⟩ := hw
  refine ⟨fun T V hT hc => ?_, fun T V hT hc => ?_, fun T T' V V' hT hT' hc hc' j hj => ?_⟩
  · obtain ⟨V0, c0, e0⟩ := kkp_fld hG hk w1 t0 hT (hn0 T hT) hc
    exact e0.trans (h.1 T V0 hT c0)
  · obtain ⟨V0, c0, e0⟩ := kkp_fld hG hk w2 t1 hT (hn6 T hT) hc
    exact e0.trans (h.2.1 T V0 hT c0)
  · obtain ⟨V0, c0, e0⟩ := kkp_all hG hk (lnot_ok w3) t5 hT hc
    obtain ⟨V1, c1, e1⟩ := kkp_all hG hk (lnot_ok w4) t6 hT' hc'
    rw [e0 j (by rw [hn5 T hT]; exact hj), e1 j (by rw [hn9 T' hT']; exact hj)]
    exact h.2.2 T T' V0 V1 hT hT' c0 c1 j hj
/-- the form of the number at j, found by j or by the first number -/
def lat (S : kS) (r j : Nat) : Option kL := match kfind S.2.2.2.2.1 r (kcst (Int.ofNat j)) with
  | some (.inl f) => some f
  | _ => match kfeq S (ksym 0) (kcst (Int.ofNat j)) with
    | true => match kfind S.2.2.2.2.1 r (ksym 0) with
      | some (.inl f) => some f
      | _ => none
    | false => none
theorem lfnd_ok {r j a t : Nat} {x f : kL} {T : kT} {V : Nat → Value} (hTy : kTyp tt Ty) (h : kst D cA tt Ty env ren S H lv st) (hr : ren[r]? = some a) (ht : Ty a t) (hT : tt[t]? = some T) (hc : kcell D cA T a H V) (hx : ∀ z, kev env x = some z → z = (j : Int)) (hf : kfind S.2.2.2.2.1 r x = some (.inl f)) : ∃ n : Int32, V j = .int n ∧ kev env f = some n.toInt := by
  obtain ⟨a', t', T', V', z', f1, f2, f3, f4, f5, f6, n, f7, f8⟩ := kfind_ok h hf
  have ea : a' = a := Option.some.inj (f1.symm.trans hr)
  subst ea
  have et := kTyp_eq hTy f2 ht f3 hT
  subst et
  have eT : T' = T := Option.some.inj (f3.symm.trans hT)
  subst eT
  have ez := hx _ f5
  have ez : z' = j := by omega
  subst ez
  exact ⟨n, by rw [← f7]; exact (kcell_uniq f4 hc f6).symm, f8⟩
theorem lat_ok {r j a t : Nat} {f : kL} {T : kT} {V : Nat → Value} (hTy : kTyp tt Ty) (h : kst D cA tt Ty env ren S H lv st) (h0 : ∃ z, env[0]? = some z) (hr : ren[r]? = some a) (ht : Ty a t) (hT : tt[t]? = some T) (hc : kcell D cA T a H V) (hf : lat S r j = some f) : ∃ n : Int32, V j = .int n ∧ kev env f = some n.toInt := by
  unfold lat at hf
  split at hf
  · rename_i g hg
    cases hf
    exact lfnd_ok hTy h hr ht hT hc (fun z hz => (Option.some.inj (kcst_ev.symm.trans hz)).symm) hg
  · split at hf
    · rename_i he
      split at hf
      · rename_i g hg
        cases hf
        obtain ⟨z0, hz0⟩ := h0
        have e0 := kfeq_ok h (ksym_ev hz0) kcst_ev he
        exact lfnd_ok hTy h hr ht hT hc (fun z hz => (Option.some.inj ((ksym_ev hz0).symm.trans hz)).symm.trans e0) hg
      · cases hf
    · cases hf
def lfj (S : kS) (j : Nat) : Bool := match lat S 4 j, lat S 5 j with
  | some f, some g => kfeq S f g
  | _, _ => false
def lrx (S : kS) (r0 j r : Nat) : Bool := match kfind S.2.2.2.2.1 r0 (kcst (Int.ofNat j)) with
  | some (.inr (.inr (.inl k))) => Nat.beq k r
  | _ => false
theorem lrx_ok {r0 j r a1 a t : Nat} {T : kT} {V : Nat → Value} (hTy : kTyp tt Ty) (h : kst D cA tt Ty env ren S H lv st) (h1 : ren[r0]? = some a1) (hr : ren[r]? = some a) (ht : Ty a1 t) (hT : tt[t]? = some T) (hc : kcell D cA T a1 H V) (hz : lrx S r0 j r = true) : V j = .ref a := by
  unfold lrx at hz
  split at hz
  · rename_i k hf
    have ek := Nat.beq_eq.mp hz
    subst ek
    obtain ⟨a', t', T', V', z', f1, f2, f3, f4, f5, f6, b, f7, f8⟩ := kfind_ok h hf
    have ea : a' = a1 := Option.some.inj (f1.symm.trans h1)
    subst ea
    have et := kTyp_eq hTy f2 ht f3 hT
    subst et
    have eT : T' = T := Option.some.inj (f3.symm.trans hT)
    subst eT
    have ez : Int.ofNat j = (z' : Int) := Option.some.inj (kcst_ev.symm.trans f5)
    have ez : j = z' := Int.ofNat.inj ez
    subst ez
    have eb : b = a := Option.some.inj (f8.symm.trans hr)
    subst eb
    exact (kcell_uniq hc f4 f6).trans f7
  · cases hz
def lflb (S : kS) : Bool := lrx S 0 12 4 && (lrx S 1 3 5 && (lfj S 0 && (lfj S 1 && lfj S 2)))
theorem lfj_ok {j a5 a6 : Nat} {T T' : kT} {V V' : Nat → Value} (hTy : kTyp tt Ty) (h : kst D cA tt Ty env ren S H lv st) (h0 : ∃ z, env[0]? = some z) (r4 : ren[4]? = some a5) (r5 : ren[5]? = some a6) (t5 : Ty a5 35) (t6 : Ty a6 39) (hT : tt[35]? = some T) (hT' : tt[39]? = some T') (hc : kcell D cA T a5 H V) (hc' : kcell D cA T' a6 H V') (hj : lfj S j = true) : V j = V' j := by
  unfold lfj at hj
  split at hj
  · rename_i f g hf hg
    obtain ⟨n, e1, e2⟩ := lat_ok hTy h h0 r4 t5 hT hc hf
    obtain ⟨n', e3, e4⟩ := lat_ok hTy h h0 r5 t6 hT' hc' hg
    have e5 := kfeq_ok h e2 e4 hj
    rw [e1, e3, Int32.toInt_inj.mp e5]
  · cases hj
theorem lfl_chk {a a1 a5 a6 : Nat} (hTy : kTyp tt Ty) (h : kst D cA tt Ty env ren S H lv st) (h0 : ∃ z, env[0]? = some z) (r0 : ren[0]? = some a) (r1 : ren[1]? = some a1) (r4 : ren[4]? = some a5) (r5 : ren[5]? = some a6) (t0 : Ty a 0) (t1 : Ty a1 36) (t5 : Ty a5 35) (t6 : Ty a6 39) (hc : lflb S = true) : lfl D cA tt a a1 a5 a6 H := by
  unfold lflb at hc
  simp only [Bool.and_eq_true] at hc
  obtain ⟨c1, c2, c3, c4, c5⟩ := hc
  refine ⟨fun T V hT hV => lrx_ok hTy h r0 r4 t0 hT hV c1, fun T V hT hV => lrx_ok hTy h r1 r5 t1 hT hV c2, fun T T' V V' hT hT' hV hV' j hj => ?_⟩
  match j, hj with
  | 0, _ => exact lfj_ok hTy h h0 r4 r5 t5 t6 hT hT' hV hV' c3
  | 1, _ => exact lfj_ok hTy h h0 r4 r5 t5 t6 hT hT' hV hV' c4
  | 2, _ => exact lfj_ok hTy h h0 r4 r5 t5 t6 hT hT' hV hV' c5
  | j + 3, hj => omega
theorem kRt_app {r1 r2 t1 t2 : List Nat} (h1 : kRt Ty r1 t1) (h2 : kRt Ty r2 t2) : kRt Ty (r1 ++ r2) (t1 ++ t2) := by
  refine ⟨by simp [h1.1, h2.1], fun k q z hq hz => ?_⟩
  by_cases hlt : k < t1.length
  · rw [List.getElem?_append_left hlt] at hq
    rw [List.getElem?_append_left (by rw [h1.1]; exact hlt)] at hz
    exact h1.2 k q z hq hz
  · rw [List.getElem?_append_right (by omega)] at hq
    rw [List.getElem?_append_right (by rw [h1.1]; omega), h1.1] at hz
    exact h2.2 _ q z hq hz
def lsx (S : kS) (iv : kQ) (rt : List Nat) (F : List kF) : kS := (S.1 ++ iv, S.2.1 ++ rt, [], [], S.2.2.2.2.1 ++ F, S.2.2.2.2.2)
theorem lsx_ok {iv : kQ} {rt u : List Nat} {e : List Int} {F : List kF} (h : kst D cA tt Ty env ren (lsk S []) H [] []) (he : kI e iv) (hu : kRt Ty u rt) (hF : ∀ q ∈ F, kfok D cA tt Ty (env ++ e) (ren ++ u) H q) : kst D cA tt Ty (env ++ e) (ren ++ u) (lsk (lsx S iv rt F) []) H [] [] :=
  ⟨kI_app h.1 he, kC_ext h.2.1, kRt_app h.2.2.1 hu, trivial, trivial, List.forall_mem_append.mpr ⟨fun q hq => kfok_ext (h.2.2.2.2.2 q hq), hF⟩⟩
def ls0 (S : kS) (q : Int × Int) : kS := (S.1.set 0 q, S.2)
theorem ls0_ok {q : Int × Int} {z : Int} (h : kst D cA tt Ty env ren (lsk S []) H [] []) (hz : env[0]? = some z) (h1 : q.1 ≤ z) (h2 : z ≤ q.2) : kst D cA tt Ty env ren (lsk (ls0 S q) []) H [] [] := by
  refine ⟨kI_set h.1 (fun z' hz' => ?_), h.2⟩
  have e : z' = z := Option.some.inj (hz'.symm.trans hz)
  subst e
  exact ⟨h1, h2⟩
end LFL
def lFI : List kF := [(0, kcst 12, .inr (.inr (.inl 4))), (1, kcst 3, .inr (.inr (.inl 5)))]
def lsI : kS := lsx lsW [(0, 1), (0, 1), (0, 1)] [35, 39] (lFI ++ [(4, kcst 0, .inl (ksym 26)), (4, kcst 1, .inl (ksym 27)), (4, kcst 2, .inl (ksym 28)), (5, kcst 0, .inl (ksym 26)), (5, kcst 1, .inl (ksym 27)), (5, kcst 2, .inl (ksym 28))])
def lsK : kS := lsx lsW [(0, 1)] [35, 39] (lFI ++ [(4, ksym 0, .inl (ksym 26)), (5, ksym 0, .inl (ksym 26))])
def lT0 : kT := k_tt.getD 0 (0, 0, [], [])
def lT5 : kT := k_tt.getD 35 (0, 0, [], [])
def lT9 : kT := k_tt.getD 39 (0, 0, [], [])
def lT36 : kT := k_tt.getD 36 (0, 0, [], [])
theorem lT0_at : k_tt[0]? = some lT0 := rfl
theorem lT5_at : k_tt[35]? = some lT5 := rfl
theorem lT9_at : k_tt[39]? = some lT9 := rfl
theorem lT36_at : k_tt[36]? = some lT36 := rfl
theorem lT0_n : lT0.2.1 = 13 := by decide +kernel
theorem lT5_n : lT5.2.1 = 3 := by decide +kernel
theorem lT9_n : lT9.2.1 = 3 := by decide +kernel
theorem lT36_n : lT36.2.1 = 38 := by decide +kernel
section LSTI
variable {D : va_G} {cA : Nat → ClassId} {Ty : Nat → Nat → Prop} {env : List Int} {ren : List Nat} {H : Heap} {xs : Nat → Int32} {I : Nat}
theorem lRt2 {a5 a6 : Nat} (t5 : Ty a5 35) (t6 : Ty a6 39) : kRt Ty [a5, a6] [35, 39] := ⟨rfl, fun k t a hk ha => by
  match k, hk, ha with
  | 0, hk, ha => cases hk; cases ha; exact t5
  | 1, hk, ha => cases hk; cases ha; exact t6
  | k + 2, hk, ha => cases hk⟩
theorem lFI_ok {lo a a1 a2 a3 a5 a6 : Nat} (hTy : kTyp k_tt Ty) (hG : kgood D cA k_tt Ty lo H) (hf : lfl D cA k_tt a a1 a5 a6 H) (t0 : Ty a 0) (t1 : Ty a1 36) : ∀ q ∈ lFI, kfok D cA k_tt Ty env [a, a1, a2, a3, a5, a6] H q := by
  obtain ⟨-, V, hc, -⟩ := hG.1 a 0 _ t0 lT0_at
  obtain ⟨-, V1, hc1, -⟩ := hG.1 a1 36 _ t1 lT36_at
  exact List.forall_mem_cons.mpr ⟨l_fct (j := 12) hTy rfl t0 lT0_at hc (by rw [lT0_n]; decide) ⟨a5, hf.1 _ V lT0_at hc, rfl⟩, List.forall_mem_cons.mpr ⟨l_fct (j := 3) hTy rfl t1 lT36_at hc1 (by rw [lT36_n]; decide) ⟨a6, hf.2.1 _ V1 lT36_at hc1, rfl⟩, fun _ h => absurd h List.not_mem_nil⟩⟩
/-- a flag -/
theorem l_flag {lo a a1 a5 a6 j : Nat} (hG : kgood D cA k_tt Ty lo H) (hf : lfl D cA k_tt a a1 a5 a6 H) (t5 : Ty a5 35) (t6 : Ty a6 39) (hj : j < 3) : ∃ (V V' : Nat → Value) (n : Int32), kcell D cA lT5 a5 H V ∧ kcell D cA lT9 a6 H V' ∧ V j = .int n ∧ V' j = .int n ∧ 0 ≤ n.toInt ∧ n.toInt ≤ 1 := by
  obtain ⟨-, V, hc, hv⟩ := hG.1 a5 35 _ t5 lT5_at
  obtain ⟨-, V', hc', -⟩ := hG.1 a6 39 _ t6 lT9_at
  obtain ⟨n, e, q, hq, b⟩ := hv.1 _ (lrun_ok (T := lT5) (i := 0) (b := 0) (n := 3) (q := (0, 1)) (by decide +kernel)) j hj
  have hq := List.mem_singleton.mp hq
  subst hq
  have e : V (0 + 1 * j) = .int n := e
  rw [Nat.zero_add, Nat.one_mul] at e
  exact ⟨V, V', n, hc, hc', e, by rw [← hf.2.2 _ _ V V' lT5_at lT9_at hc hc' j hj]; exact e, b.1, b.2⟩
set_option maxHeartbeats 4000000 in
theorem l_stI {lo a a1 a2 a3 a5 a6 : Nat} (hTy : kTyp k_tt Ty) (hG : kgood D cA k_tt Ty lo H) (hm : lmd D cA k_tt a1 a2 a3 H) (hf : lfl D cA k_tt a a1 a5 a6 H) (t0 : Ty a 0) (t1 : Ty a1 36) (t2 : Ty a2 37) (t3 : Ty a3 38) (t5 : Ty a5 35) (t6 : Ty a6 39) : ∃ ev, kst D cA k_tt Ty (lenv xs I ++ ev) [a, a1, a2, a3, a5, a6] (lsk lsI []) H [] [] ∧ ∀ s0 ∈ stW, okE (lenv xs I ++ ev) s0 := by
  obtain ⟨ev, z1, z2⟩ := l_stW (xs := xs) (I := I) (a := a) hTy hG hm lT36_at t0 t1 t2 t3
  have hl : (lenv xs I ++ ev).length = 26 := z1.1.1
  obtain ⟨V, V', n0, c0, c0', e0, e0', b0⟩ := l_flag (j := 0) hG hf t5 t6 (by decide)
  obtain ⟨V1, V1', n1, c1, c1', e1, e1', b1⟩ := l_flag (j := 1) hG hf t5 t6 (by decide)
  obtain ⟨V2, V2', n2, c2, c2', e2, e2', b2⟩ := l_flag (j := 2) hG hf t5 t6 (by decide)
  have y : ∀ k z, [n0.toInt, n1.toInt, n2.toInt][k]? = some z → kev (lenv xs I ++ ev ++ [n0.toInt, n1.toInt, n2.toInt]) (ksym (26 + k)) = some z := fun k z hk => ksym_ev (by rw [List.getElem?_append_right (by omega), hl, Nat.add_sub_cancel_left]; exact hk)
  refine ⟨ev ++ [n0.toInt, n1.toInt, n2.toInt], ?_, fun s0 hs => by rw [← List.append_assoc]; exact okE_ext (z2 s0 hs)⟩
  rw [← List.append_assoc]
  refine lsx_ok (u := [a5, a6]) z1 (kI_cons b0 (kI_cons b1 (kI_cons b2 kI_nil))) (lRt2 t5 t6) (List.forall_mem_append.mpr ⟨lFI_ok hTy hG hf t0 t1, ?_⟩)
  have p5 : 3 ≤ lT5.2.1 := by rw [lT5_n]; decide
  have p9 : 3 ≤ lT9.2.1 := by rw [lT9_n]; decide
  exact List.forall_mem_cons.mpr ⟨l_fct (j := 0) hTy rfl t5 lT5_at c0 (by omega) ⟨n0, e0, y 0 _ rfl⟩, List.forall_mem_cons.mpr ⟨l_fct (j := 1) hTy rfl t5 lT5_at c1 (by omega) ⟨n1, e1, y 1 _ rfl⟩, List.forall_mem_cons.mpr ⟨l_fct (j := 2) hTy rfl t5 lT5_at c2 (by omega) ⟨n2, e2, y 2 _ rfl⟩, List.forall_mem_cons.mpr ⟨l_fct (j := 0) hTy rfl t6 lT9_at c0' (by omega) ⟨n0, e0', y 0 _ rfl⟩, List.forall_mem_cons.mpr ⟨l_fct (j := 1) hTy rfl t6 lT9_at c1' (by omega) ⟨n1, e1', y 1 _ rfl⟩, List.forall_mem_cons.mpr ⟨l_fct (j := 2) hTy rfl t6 lT9_at c2' (by omega) ⟨n2, e2', y 2 _ rfl⟩, fun _ h => absurd h List.not_mem_nil⟩⟩⟩⟩⟩⟩
set_option maxHeartbeats 4000000 in
theorem l_stK {lo a a1 a2 a3 a5 a6 K : Nat} (hTy : kTyp k_tt Ty) (hG : kgood D cA k_tt Ty lo H) (hm : lmd D cA k_tt a1 a2 a3 H) (hf : lfl D cA k_tt a a1 a5 a6 H) (t0 : Ty a 0) (t1 : Ty a1 36) (t2 : Ty a2 37) (t3 : Ty a3 38) (t5 : Ty a5 35) (t6 : Ty a6 39) (hK : K < 3) (hz : (xs (I + 1)).toInt = (K : Int)) : ∃ ev, kst D cA k_tt Ty (lenv xs I ++ ev) [a, a1, a2, a3, a5, a6] (lsk lsK []) H [] [] ∧ ∀ s0 ∈ stW, okE (lenv xs I ++ ev) s0 := by
  obtain ⟨ev, z1, z2⟩ := l_stW (xs := xs) (I := I) (a := a) hTy hG hm lT36_at t0 t1 t2 t3
  have hl : (lenv xs I ++ ev).length = 26 := z1.1.1
  obtain ⟨V, V', n0, c0, c0', e0, e0', b0⟩ := l_flag (j := K) hG hf t5 t6 hK
  have y : kev (lenv xs I ++ ev ++ [n0.toInt]) (ksym 26) = some n0.toInt := ksym_ev (by rw [List.getElem?_append_right (by omega), hl]; rfl)
  have y0 : kev (lenv xs I ++ ev ++ [n0.toInt]) (ksym 0) = some (K : Int) := ksym_ev (by rw [← hz]; rfl)
  refine ⟨ev ++ [n0.toInt], ?_, fun s0 hs => by rw [← List.append_assoc]; exact okE_ext (z2 s0 hs)⟩
  rw [← List.append_assoc]
  refine lsx_ok (u := [a5, a6]) z1 (kI_cons b0 kI_nil) (lRt2 t5 t6) (List.forall_mem_append.mpr ⟨lFI_ok hTy hG hf t0 t1, ?_⟩)
  exact List.forall_mem_cons.mpr ⟨kfok_mk hTy ⟨a5, 35, lT5, V, K, rfl, t5, lT5_at, c0, y0, by rw [lT5_n]; exact hK, ⟨n0, e0, y⟩⟩, List.forall_mem_cons.mpr ⟨kfok_mk hTy ⟨a6, 39, lT9, V', K, rfl, t6, lT9_at, c0', y0, by rw [lT9_n]; exact hK, ⟨n0, e0', y⟩⟩, fun _ h => absurd h List.not_mem_nil⟩⟩
end LSTI
