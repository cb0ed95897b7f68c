/-! THE LAW'S CASES: what two calls with the same arguments keep -/
def okz (z0 z1 z5 z6 z10 : Int) : Prop := (z0 = 0 ∧ z1 = 0 ∧ z5 = 0 ∧ z6 = 0 ∧ z10 = 0) ∨ ((1 ≤ z0 ∧ z0 ≤ 5) ∧ (1 ≤ z1 ∧ z1 ≤ 4) ∧ (0 ≤ z5 ∧ z5 ≤ 8))
/-- a green's numbers at b: none read yet, or a read one -/
def okb (V : Nat → Value) (b : Nat) : Prop := (V b = .int 0 ∧ V (b + 1) = .int 0 ∧ V (b + 5) = .int 0 ∧ V (b + 6) = .int 0 ∧ V (b + 10) = .int 0) ∨ ∃ z0 z1 z5 : Int32, V b = .int z0 ∧ V (b + 1) = .int z1 ∧ V (b + 5) = .int z5 ∧ (1 ≤ z0.toInt ∧ z0.toInt ≤ 5) ∧ (1 ≤ z1.toInt ∧ z1.toInt ≤ 4) ∧ (0 ≤ z5.toInt ∧ z5.toInt ≤ 8)
theorem okb_congr {V V' : Nat → Value} {b N : Nat} (hb : b + 10 < N) (h : ∀ j, j < N → V' j = V j) (ho : okb V b) : okb V' b := by
  unfold okb at ho ⊢
  rw [h b (by omega), h (b + 1) (by omega), h (b + 5) (by omega), h (b + 6) (by omega), h (b + 10) (by omega)]
  exact ho
def okE (env : List Int) (s0 : Nat) : Prop := ∃ z0 z1 z5 z6 z10 : Int, env[s0]? = some z0 ∧ env[s0 + 1]? = some z1 ∧ env[s0 + 2]? = some z5 ∧ env[s0 + 3]? = some z6 ∧ env[s0 + 4]? = some z10 ∧ okz z0 z1 z5 z6 z10
theorem okE_ext {env x : List Int} {s0 : Nat} (h : okE env s0) : okE (env ++ x) s0 := by
  obtain ⟨z0, z1, z5, z6, z10, h0, h1, h5, h6, h10, h⟩ := h
  exact ⟨z0, z1, z5, z6, z10, kget_ext h0, kget_ext h1, kget_ext h5, kget_ext h6, kget_ext h10, h⟩
/-- the form of the number at x of reference r -/
def lz (S : kS) (r x : Nat) (p : kL → Bool) : Bool := match kfind S.2.2.2.2.1 r (kcst (Int.ofNat x)) with
  | some (.inl f) => p f
  | _ => false
def lblk0 (S : kS) (r b : Nat) : Bool := lz S r b (fun f => kLeq f (kcst 0)) && (lz S r (b + 1) (fun f => kLeq f (kcst 0)) && (lz S r (b + 5) (fun f => kLeq f (kcst 0)) && (lz S r (b + 6) (fun f => kLeq f (kcst 0)) && lz S r (b + 10) (fun f => kLeq f (kcst 0)))))
def lblk1 (S : kS) (r b : Nat) : Bool := lz S r b (fun f => kbt S f 1 5) && (lz S r (b + 1) (fun f => kbt S f 1 4) && lz S r (b + 5) (fun f => kbt S f 0 8))
def lblk2 (S : kS) (s0 r b : Nat) : Bool := lz S r b (fun f => kLeq f (ksym s0)) && (lz S r (b + 1) (fun f => kLeq f (ksym (s0 + 1))) && (lz S r (b + 5) (fun f => kLeq f (ksym (s0 + 2))) && (lz S r (b + 6) (fun f => kLeq f (ksym (s0 + 3))) && lz S r (b + 10) (fun f => kLeq f (ksym (s0 + 4))))))
def lblk (S : kS) (sts : List Nat) (r b : Nat) : Bool := match lblk0 S r b with
  | true => true
  | false => match lblk1 S r b with
    | true => true
    | false => sts.any (fun s0 => lblk2 S s0 r b)
section LBLK
variable {D : va_G} {cA : Nat → ClassId} {tt : List kT} {Ty : Nat → Nat → Prop} {env : List Int} {ren : List Nat} {S : kS} {H H' : Heap} {lv : List (Nat × Value)} {st : List Value}
theorem lz_ok {r x a t : Nat} {p : kL → Bool} {T : kT} {V : Nat → Value} (hTy : kTyp tt Ty) (h : kst D cA tt Ty env ren S H lv st) (hr : ren[r]? = some a) (ht : Ty a t) (hT : tt[t]? = some T) (hc : kcell D cA T a H V) (hz : lz S r x p = true) : ∃ (n : Int32) (f : kL), V x = .int n ∧ kev env f = some n.toInt ∧ p f = true := by
  unfold lz at hz
  split at hz
  · rename_i f hf
    obtain ⟨a', t', T', V', z', f1, f2, f3, f4, f5, f6, n, f7, f8⟩ := kfind_ok h hf
    have ea : a' = a := Option.some.inj (f1.symm.trans hr)
    subst ea
    have et := kTyp_eq hTy f2 ht f3 hT
    subst et
    have eT : T' = T := Option.some.inj (f3.symm.trans hT)
    subst eT
    have ez : Int.ofNat x = (z' : Int) := Option.some.inj (kcst_ev.symm.trans f5)
    have ez : x = z' := Int.ofNat.inj ez
    subst ez
    exact ⟨n, f, by rw [← f7]; exact (kcell_uniq f4 hc f6).symm, f8, hz⟩
  · cases hz
theorem kLeq_val {f g : kL} {x y : Int} (h : kLeq f g = true) (hf : kev env f = some x) (hg : kev env g = some y) : x = y := by
  have e := kLeq_eq h
  subst e
  exact Option.some.inj (hf.symm.trans hg)
theorem l_i0 {n : Int32} (h : n.toInt = 0) : n = 0 := Int32.toInt_inj.mp h
theorem lblk_ok {sts : List Nat} {r b a t : Nat} {T : kT} {V : Nat → Value} (hTy : kTyp tt Ty) (h : kst D cA tt Ty env ren S H lv st) (hE : ∀ s0 ∈ sts, okE env s0) (hr : ren[r]? = some a) (ht : Ty a t) (hT : tt[t]? = some T) (hc : kcell D cA T a H V) (hb : lblk S sts r b = true) : okb V b := by
  unfold lblk at hb
  cases h0 : lblk0 S r b with
  | true =>
    unfold lblk0 at h0
    simp only [Bool.and_eq_true] at h0
    obtain ⟨w0, w1, w5, w6, w10⟩ := h0
    obtain ⟨n0, f0, a0, b0, c0⟩ := lz_ok hTy h hr ht hT hc w0
    obtain ⟨n1, f1, a1, b1, c1⟩ := lz_ok hTy h hr ht hT hc w1
    obtain ⟨n5, f5, a5, b5, c5⟩ := lz_ok hTy h hr ht hT hc w5
    obtain ⟨n6, f6, a6, b6, c6⟩ := lz_ok hTy h hr ht hT hc w6
    obtain ⟨n10, f10, a10, b10, c10⟩ := lz_ok hTy h hr ht hT hc w10
    have e0 := l_i0 (kLeq_val c0 b0 kcst_ev)
    have e1 := l_i0 (kLeq_val c1 b1 kcst_ev)
    have e5 := l_i0 (kLeq_val c5 b5 kcst_ev)
    have e6 := l_i0 (kLeq_val c6 b6 kcst_ev)
    have e10 := l_i0 (kLeq_val c10 b10 kcst_ev)
    subst e0; subst e1; subst e5; subst e6; subst e10
    exact Or.inl ⟨a0, a1, a5, a6, a10⟩
  | false =>
    simp only [h0] at hb
    cases h1 : lblk1 S r b with
    | true =>
      unfold lblk1 at h1
      simp only [Bool.and_eq_true] at h1
      obtain ⟨w0, w1, w5⟩ := h1
      obtain ⟨n0, f0, a0, b0, c0⟩ := lz_ok hTy h hr ht hT hc w0
      obtain ⟨n1, f1, a1, b1, c1⟩ := lz_ok hTy h hr ht hT hc w1
      obtain ⟨n5, f5, a5, b5, c5⟩ := lz_ok hTy h hr ht hT hc w5
      exact Or.inr ⟨n0, n1, n5, a0, a1, a5, kbt_ok h b0 c0, kbt_ok h b1 c1, kbt_ok h b5 c5⟩
    | false =>
      simp only [h1] at hb
      obtain ⟨s0, hs, h2⟩ := List.any_eq_true.mp hb
      unfold lblk2 at h2
      simp only [Bool.and_eq_true] at h2
      obtain ⟨w0, w1, w5, w6, w10⟩ := h2
      obtain ⟨n0, f0, a0, b0, c0⟩ := lz_ok hTy h hr ht hT hc w0
      obtain ⟨n1, f1, a1, b1, c1⟩ := lz_ok hTy h hr ht hT hc w1
      obtain ⟨n5, f5, a5, b5, c5⟩ := lz_ok hTy h hr ht hT hc w5
      obtain ⟨n6, f6, a6, b6, c6⟩ := lz_ok hTy h hr ht hT hc w6
      obtain ⟨n10, f10, a10, b10, c10⟩ := lz_ok hTy h hr ht hT hc w10
      obtain ⟨z0, z1, z5, z6, z10, y0, y1, y5, y6, y10, ho⟩ := hE s0 hs
      have e0 := kLeq_val c0 b0 (ksym_ev y0)
      have e1 := kLeq_val c1 b1 (ksym_ev y1)
      have e5 := kLeq_val c5 b5 (ksym_ev y5)
      have e6 := kLeq_val c6 b6 (ksym_ev y6)
      have e10 := kLeq_val c10 b10 (ksym_ev y10)
      subst e0; subst e1; subst e5; subst e6; subst e10
      rcases ho with ⟨o0, o1, o5, o6, o10⟩ | ⟨o0, o1, o5⟩
      · have o0 := l_i0 o0
        have o1 := l_i0 o1
        have o5 := l_i0 o5
        have o6 := l_i0 o6
        have o10 := l_i0 o10
        subst o0; subst o1; subst o5; subst o6; subst o10
        exact Or.inl ⟨a0, a1, a5, a6, a10⟩
      · exact Or.inr ⟨n0, n1, n5, a0, a1, a5, o0, o1, o5⟩
/-- a cell whose type isn't written -/
theorem kkp_all {wr : kW} {a t lo : Nat} {T : kT} {V' : Nat → Value} (hG : kgood D cA tt Ty lo H) (hk : kkp D cA tt Ty wr H H') (hw : ∀ w ∈ wr, w.1 ≠ t) (ht : Ty a t) (hT : tt[t]? = some T) (hc : kcell D cA T a H' V') : ∃ V, kcell D cA T a H V ∧ ∀ j, j < T.2.1 → V' j = V j := by
  obtain ⟨-, V, c1, -⟩ := hG.1 a t T ht hT
  refine ⟨V, c1, fun j hj => ?_⟩
  obtain ⟨V2, c2, e2⟩ := hk a t T V j ht hT c1 hj (fun w hw2 e => absurd e (hw w hw2))
  exact (kcell_uniq hc c2 hj).trans e2
end LBLK
/-- what holds at the loop's head -/
def lmd (D : va_G) (cA : Nat → ClassId) (tt : List kT) (a1 a2 a3 : Nat) (H : Heap) : Prop := (∀ (T : kT) (V : Nat → Value), tt[36]? = some T → kcell D cA T a1 H V → V 1 = .ref a2 ∧ V 2 = .ref a3) ∧ (∀ (T : kT) (V : Nat → Value), tt[37]? = some T → kcell D cA T a2 H V → okb V 0) ∧ ∀ (T : kT) (V : Nat → Value), tt[38]? = some T → kcell D cA T a3 H V → okb V 0 ∧ okb V 115 ∧ okb V 230
def lnot (wr : kW) (t : Nat) : Bool := wr.all (fun w => match Nat.beq w.1 t with
  | true => false
  | false => true)
theorem lnot_ok {wr : kW} {t : Nat} (h : lnot wr t = true) : ∀ w ∈ wr, w.1 ≠ t := fun w hw e => by
  have h1 := List.all_eq_true.mp h w hw
  have h2 : Nat.beq w.1 t = true := Nat.beq_eq.mpr e
  simp only [h2] at h1
  cases h1
def lref (S : kS) (j r : Nat) : Bool := match kfind S.2.2.2.2.1 1 (kcst (Int.ofNat j)) with
  | some (.inr (.inr (.inl k))) => Nat.beq k r
  | _ => false
def lend (wr : kW) (sts : List Nat) (S : kS) : Bool := lref S 1 2 && (lref S 2 3 && ((match lnot wr 37 with
  | true => true
  | false => lblk S sts 2 0) && (match lnot wr 38 with
  | true => true
  | false => lblk S sts 3 0 && (lblk S sts 3 115 && lblk S sts 3 230))))
section LEND0
variable {D : va_G} {cA : Nat → ClassId} {tt : List kT} {Ty : Nat → Nat → Prop} {env : List Int} {ren : List Nat} {S : kS} {H H' : Heap} {lv : List (Nat × Value)} {st : List Value}
theorem lref_ok {j r a1 a : Nat} {T : kT} {V : Nat → Value} (hTy : kTyp tt Ty) (h : kst D cA tt Ty env ren S H lv st) (h1 : ren[1]? = some a1) (hr : ren[r]? = some a) (ht : Ty a1 36) (hT : tt[36]? = some T) (hc : kcell D cA T a1 H V) (hz : lref S j r = true) : V j = .ref a := by
  unfold lref at hz
  split at hz
  · rename_i k hf
    have ek := Nat.beq_eq.mp hz
    subst ek
    obtain ⟨a', t', T', V', z', f1, f2, f3, f4, f5, f6, b, f7, f8⟩ := kfind_ok h hf
    have ea : a' = a1 := Option.some.inj (f1.symm.trans h1)
    subst ea
    have et := kTyp_eq hTy f2 ht f3 hT
    subst et
    have eT : T' = T := Option.some.inj (f3.symm.trans hT)
    subst eT
    have ez : Int.ofNat j = (z' : Int) := Option.some.inj (kcst_ev.symm.trans f5)
    have ez : j = z' := Int.ofNat.inj ez
    subst ez
    have eb : b = a := Option.some.inj (f8.symm.trans hr)
    subst eb
    exact (kcell_uniq hc f4 f6).trans f7
  · cases hz
theorem lend_ok {wr : kW} {sts : List Nat} {a1 a2 a3 lo : Nat} (hTy : kTyp tt Ty) (h37 : ∀ T : kT, tt[37]? = some T → 10 < T.2.1) (h38 : ∀ T : kT, tt[38]? = some T → 240 < T.2.1) (hG : kgood D cA tt Ty lo H) (hm : lmd D cA tt a1 a2 a3 H) (hk : kkp D cA tt Ty wr H H') (h : kst D cA tt Ty env ren S H' lv st) (hE : ∀ s0 ∈ sts, okE env s0) (h1 : ren[1]? = some a1) (h2 : ren[2]? = some a2) (h3 : ren[3]? = some a3) (t1 : Ty a1 36) (t2 : Ty a2 37) (t3 : Ty a3 38) (hc : lend wr sts S = true) : lmd D cA tt a1 a2 a3 H' := by
  unfold lend at hc
  simp only [Bool.and_eq_true] at hc
  obtain ⟨c1, c2, c3, c4⟩ := hc
  refine ⟨fun T V hT hV => ⟨lref_ok hTy h h1 h2 t1 hT hV c1, lref_ok hTy h h1 h3 t1 hT hV c2⟩, fun T V hT hV => ?_, fun T V hT hV => ?_⟩
  · cases hn : lnot wr 37 with
    | false =>
      simp only [hn] at c3
      exact lblk_ok hTy h hE h2 t2 hT hV c3
    | true =>
      obtain ⟨V0, k1, k2⟩ := kkp_all hG hk (lnot_ok hn) t2 hT hV
      exact okb_congr (h37 T hT) k2 (hm.2.1 T V0 hT k1)
  · cases hn : lnot wr 38 with
    | false =>
      simp only [hn, Bool.and_eq_true] at c4
      exact ⟨lblk_ok hTy h hE h3 t3 hT hV c4.1, lblk_ok hTy h hE h3 t3 hT hV c4.2.1, lblk_ok hTy h hE h3 t3 hT hV c4.2.2⟩
    | true =>
      obtain ⟨V0, k1, k2⟩ := kkp_all hG hk (lnot_ok hn) t3 hT hV
      have h240 := h38 T hT
      obtain ⟨o0, o1, o2⟩ := hm.2.2 T V0 hT k1
      exact ⟨okb_congr (by omega) k2 o0, okb_congr (by omega) k2 o1, okb_congr (by omega) k2 o2⟩
end LEND0
/-- both calls by their contracts, their answers forgotten -/
def lsk (S : kS) (st : List kV) : kS := (S.1, S.2.1, [], st, S.2.2.2.2)
def lcaP (tt : List kT) (aty : List FieldType) (ct : List kCt) (ow : kOw) (cal : List (Nat × List Nat)) (wr : kW) (sts : List Nat) (S : kS) (pc kd : Nat) (lg : Bool) (iA iB : Nat) : Bool := match kinv tt aty ct ow cal wr 2000 (pc + 1 + laln kd) (.invokevirtual iA) (lsk S ((lav kd).reverse ++ [.inr (.inr (.inl 0))])) with
  | some L => L.all (fun S1 => match S1.2.2.2.1 with
    | [v] => match lkind lg v with
      | true => match kinv tt aty ct ow cal wr 2000 (pc + 1 + laln kd + 3 + 1 + 1 + laln kd) (.invokevirtual iB) (lsk S1 ((lav kd).reverse ++ [.inr (.inr (.inl 1))])) with
        | some L2 => L2.all (fun S2 => match S2.2.2.2.1 with
          | [w] => match lkind lg w with
            | true => lend wr sts S2
            | false => false
          | _ => false)
        | none => false
      | false => false
    | _ => false)
  | none => false
/-- both calls by their contracts: the answers are the same -/
def lcaR (tt : List kT) (aty : List FieldType) (ct : List kCt) (ow : kOw) (cal : List (Nat × List Nat)) (wr : kW) (sts : List Nat) (S : kS) (pc kd iA iB : Nat) : Bool := match kinv tt aty ct ow cal wr 2000 (pc + 1 + laln kd) (.invokevirtual iA) (lsk S ((lav kd).reverse ++ [.inr (.inr (.inl 0))])) with
  | some L => L.all (fun S1 => match kinv tt aty ct ow cal wr 2000 (pc + 1 + laln kd + 3 + 1 + laln kd) (.invokevirtual iB) (lsk S1 ((lav kd).reverse ++ .inr (.inr (.inl 1)) :: S1.2.2.2.1)) with
    | some L2 => L2.all (fun S2 => match S2.2.2.2.1 with
      | [v, w] => match lkind false v with
        | true => match kveq S2 v w with
          | true => lend wr sts S2
          | false => false
        | false => false
      | _ => false)
    | none => false)
  | none => false
/-- what the case's code is -/
def lpop (lg : Bool) : Instr := match lg with
  | true => .pop2
  | false => .pop
def lcdP (cc : ByteArray) (pc kd : Nat) (lg : Bool) (iA iB : Nat) : Prop :=
  decode cc pc = .ok (.aload_n 1, 1) ∧ (∀ q ∈ lar (pc + 1) kd, decode cc q.1 = .ok (q.2.1, q.2.2)) ∧ decode cc (pc + 1 + laln kd) = .ok (.invokevirtual iA, 3) ∧ decode cc (pc + 1 + laln kd + 3) = .ok (lpop lg, 1) ∧ decode cc (pc + 1 + laln kd + 3 + 1) = .ok (.aload_n 2, 1) ∧ (∀ q ∈ lar (pc + 1 + laln kd + 3 + 1 + 1) kd, decode cc q.1 = .ok (q.2.1, q.2.2)) ∧ decode cc (pc + 1 + laln kd + 3 + 1 + 1 + laln kd) = .ok (.invokevirtual iB, 3) ∧ decode cc (pc + 1 + laln kd + 3 + 1 + 1 + laln kd + 3) = .ok (lpop lg, 1) ∧ decode cc (pc + 1 + laln kd + 3 + 1 + 1 + laln kd + 3 + 1) = .ok (.goto (2121 - ((pc + 1 + laln kd + 3 + 1 + 1 + laln kd + 3 + 1 : Nat) : Int)), 3)
def lcdR (cc : ByteArray) (pc kd iA iB : Nat) : Prop :=
  decode cc pc = .ok (.aload_n 1, 1) ∧ (∀ q ∈ lar (pc + 1) kd, decode cc q.1 = .ok (q.2.1, q.2.2)) ∧ decode cc (pc + 1 + laln kd) = .ok (.invokevirtual iA, 3) ∧ decode cc (pc + 1 + laln kd + 3) = .ok (.aload_n 2, 1) ∧ (∀ q ∈ lar (pc + 1 + laln kd + 3 + 1) kd, decode cc q.1 = .ok (q.2.1, q.2.2)) ∧ decode cc (pc + 1 + laln kd + 3 + 1 + laln kd) = .ok (.invokevirtual iB, 3) ∧
  decode cc (pc + 1 + laln kd + 3 + 1 + laln kd + 3) = .ok (.if_icmp .eq (2121 - ((pc + 1 + laln kd + 3 + 1 + laln kd + 3 : Nat) : Int)), 3)
theorem lav_okE {xs : Nat → Int32} {i kd : Nat} {ev : List Int} {ren : List Nat} (h : lkok kd) : kStk (lenv xs i ++ ev) ren (lav kd).reverse (lvs xs i kd).reverse := by
  have h2 := kStk_ext (e := ev) (u := []) (kStk_rev (lav_ok (xs := xs) (i := i) (ren := ren) h))
  rw [List.append_nil] at h2
  exact h2
section LCASE2
variable {p : Program} {l : Launch} {e : Env} {R : Room} {s : State} {m : MethodId} {args : Array Value} {below : List Frame} {meth : Method} {c : Code} {H : Heap} {locs : List Loc} {cells slots : Nat} {Q : State → Prop}
variable {cc : ByteArray} {pc : Nat} {ls : Array Slot} {b L I : Nat} {i : Int32} {xs : Nat → Int32} {st : List Value}
variable {cl : List vw_C} {aty : List FieldType} {nw lg : List Cond} {sk : kSk} {cA aS : Nat → Nat} {mt : List kMd} {X : State → Heap → Prop} {lo : Nat}
variable {D : va_G} {tt : List kT} {Ty : Nat → Nat → Prop}
theorem l_popv {lb : Bool} {env : List Int} {ren : List Nat} {v : kV} {x : Value} {rest : List Value} (hexec : p.tables.exec = Jvm.exec) (hb : c.code = cc) (hk : lkind lb v = true) (hx : kvok env ren v x) (hd : decode cc pc = .ok (lpop lb, 1)) (kk : W p l e R s m args below meth c H locs cells slots Q (F0 m (pc + 1) ls rest)) : W p l e R s m args below meth c H locs cells slots Q (F0 m pc ls (x :: rest)) := by
  match lb, v, hk, hx, hd with
  | false, .inl f, _, ⟨n, e1, _⟩, hd =>
    subst e1
    exact lv_pop hexec hb hd rfl kk
  | true, .inr (.inl f), _, ⟨n, e1, _⟩, hd =>
    subst e1
    exact lv_pop2_2 hexec hb hd rfl kk
  | false, .inr _, hk, _, _ => cases hk
  | true, .inl _, hk, _, _ => cases hk
  | true, .inr (.inr _), hk, _, _ => cases hk
set_option maxHeartbeats 4000000 in
theorem lcaP_ok {own : String} {ow : kOw} {cal : List (Nat × List Nat)} {ct : List kCt} {nL kd iA iB a a1 a2 a3 : Nat} {wr : kW} {lb : Bool} {sts : List Nat} {S : kS} {ev : List Int} (hexec : p.tables.exec = Jvm.exec) (hb : c.code = cc) (hml : c.maxLocals = nL) (hR : 2048 ≤ R.frames ∧ 84000 ≤ R.locals) (hcs : cells ≤ R.cells ∧ slots ≤ R.slots) (hown : s.vm.findClass own = some m.cls) (hts : ∀ w ∈ lg, w.before args s = true) (hlg : ∀ w ∈ lg, goodWord w = true) (how : kOwM own ow cl mt lg nw) (hK : kK cl aty nw sk D cA aS s) (hn : kNest nw) (hX : kXok X lo) (hXs : X s s.heap) (hTy : kTyp tt Ty)
    (hM : ∀ (i : Nat) (C : kCt), ct[i]? = some C → kMet l cl aty lg nw sk mt D cA aS tt Ty lo X C) (hconst : (Cond.constantLong own 287 4294967295).before args s = true)
    (hkd : lkok kd) (hdec : lcdP cc pc kd lb iA iB) (hchk : lcaP tt aty ct ow cal wr sts S pc kd lb iA iB = true)
    (hi : i.toInt = (I : Int)) (hIL : I + 6 ≤ L) (hL : L ≤ 100000) (hls : ls.size = nL) (h0 : ls[0]? = some (.val (.ref b))) (h1 : ls[1]? = some (.val (.ref a))) (h2 : ls[2]? = some (.val (.ref a1))) (h3 : ls[3]? = some (.val (.int i)))
    (hblo : b < lo) (hscr : va_X b L xs s s.heap) (hfr : ∀ q, q < lo → H[q]? = s.heap[q]?) (hG : kgood D cA tt Ty lo H) (hst : kst D cA tt Ty (lenv xs I ++ ev) [a, a1, a2, a3] (lsk S []) H [] [])
    (h37 : ∀ T : kT, tt[37]? = some T → 10 < T.2.1) (h38 : ∀ T : kT, tt[38]? = some T → 240 < T.2.1) (hE : ∀ s0 ∈ sts, okE (lenv xs I ++ ev) s0) (hm : lmd D cA tt a1 a2 a3 H) (t1 : Ty a1 36) (t2 : Ty a2 37) (t3 : Ty a3 38)
    (kk : ∀ (H' : Heap) (L' : List Loc), kgood D cA tt Ty lo H' → kfr lo H H' → lmd D cA tt a1 a2 a3 H' → (∀ q ∈ L', lo ≤ q.base) → W p l e R s m args below meth c H' (locs ++ L') cells slots Q (F0 m 2121 ls [])) : W p l e R s m args below meth c H locs cells slots Q (F0 m pc ls []) := by
  obtain ⟨d0, d1, d2, d3, d4, d5, d6, d7, d8⟩ := hdec
  unfold lcaP at hchk
  split at hchk
  case h_2 => cases hchk
  rename_i LA hLA
  refine lv_aload_n hexec hb d0 rfl h1 ?_
  refine l_args hexec hb hown hconst hkd d1 h0 h3 (va_X.kept hscr (hfr b hblo)) hi hIL hL ?_
  have s1 : kst D cA tt Ty (lenv xs I ++ ev) [a, a1, a2, a3] (lsk S ((lav kd).reverse ++ [.inr (.inr (.inl 0))])) H [] ((lvs xs I kd).reverse ++ [.ref a]) := ⟨hst.1, hst.2.1, hst.2.2.1, trivial, kStk_app (lav_okE hkd) ⟨⟨a, rfl, rfl⟩, trivial⟩, hst.2.2.2.2.2⟩
  refine linv_ok hexec hb hml ⟨Nat.le_refl _, hR⟩ hcs hown hts hlg how hK hn hX hXs hTy hG hfr hM s1 hls d2 hLA (fun S' hS x u st' H1 L1 g1 g2 g3 g4 g5 => ?_)
  have hc2 := List.all_eq_true.mp hchk S' hS
  split at hc2
  case h_2 => cases hc2
  rename_i v hv
  cases hkv : lkind lb v with
  | false => simp only [hkv] at hc2; cases hc2
  | true =>
  simp only [hkv] at hc2
  split at hc2
  case h_2 => cases hc2
  rename_i LB hLB
  have hfr1 : ∀ q, q < lo → H1[q]? = s.heap[q]? := fun q hq => (g2.2 q hq).trans (hfr q hq)
  have hk1 := g5.2.2.2.2.1
  rw [hv] at hk1
  match st', hk1 with
  | [], hk1 => exact hk1.elim
  | _ :: _ :: _, hk1 => exact hk1.2.elim
  | [y], hk1 =>
  refine l_popv hexec hb hkv hk1.1 d3 ?_
  refine lv_aload_n hexec hb d4 rfl h2 ?_
  refine l_args hexec hb hown hconst hkd d5 h0 h3 (va_X.kept hscr (hfr1 b hblo)) hi hIL hL ?_
  have hr1 : ([a, a1, a2, a3] ++ u)[1]? = some a1 := rfl
  have s2 : kst D cA tt Ty (lenv xs I ++ ev ++ x) ([a, a1, a2, a3] ++ u) (lsk S' ((lav kd).reverse ++ [.inr (.inr (.inl 1))])) H1 [] ((lvs xs I kd).reverse ++ [.ref a1]) := ⟨g5.1, g5.2.1, g5.2.2.1, trivial, kStk_app (by rw [List.append_assoc]; exact lav_okE hkd) ⟨⟨a1, rfl, rfl⟩, trivial⟩, g5.2.2.2.2.2⟩
  refine linv_ok hexec hb hml ⟨Nat.le_refl _, hR⟩ hcs hown hts hlg how hK hn hX hXs hTy g1 hfr1 hM s2 hls d6 hLB (fun S2 hS2 x2 u2 st2 H2 L2 q1 q2 q3 q4 q5 => ?_)
  have hc3 := List.all_eq_true.mp hc2 S2 hS2
  split at hc3
  case h_2 => cases hc3
  rename_i w hw
  cases hkw : lkind lb w with
  | false => simp only [hkw] at hc3; cases hc3
  | true =>
  simp only [hkw] at hc3
  have hk2 := q5.2.2.2.2.1
  rw [hw] at hk2
  match st2, hk2 with
  | [], hk2 => exact hk2.elim
  | _ :: _ :: _, hk2 => exact hk2.2.elim
  | [z], hk2 =>
  refine l_popv hexec hb hkw hk2.1 d7 ?_
  refine lv_goto (tgt := 2121) hexec hb d8 (by omega) ?_
  have hmd := lend_ok hTy h37 h38 hG hm (kkp_trans g3 q3) q5 (fun s0 hs => okE_ext (okE_ext (hE s0 hs))) rfl rfl rfl t1 t2 t3 hc3
  rw [List.append_assoc]
  exact kk H2 (L1 ++ L2) q1 (kfr_trans g2 q2) hmd (fun q hq => (List.mem_append.mp hq).elim (g4 q) (q4 q))
set_option maxHeartbeats 4000000 in
theorem lcaR_ok {own : String} {ow : kOw} {cal : List (Nat × List Nat)} {ct : List kCt} {nL kd iA iB a a1 a2 a3 : Nat} {wr : kW} {sts : List Nat} {S : kS} {ev : List Int} (hexec : p.tables.exec = Jvm.exec) (hb : c.code = cc) (hml : c.maxLocals = nL) (hR : 2048 ≤ R.frames ∧ 84000 ≤ R.locals) (hcs : cells ≤ R.cells ∧ slots ≤ R.slots) (hown : s.vm.findClass own = some m.cls) (hts : ∀ w ∈ lg, w.before args s = true) (hlg : ∀ w ∈ lg, goodWord w = true) (how : kOwM own ow cl mt lg nw) (hK : kK cl aty nw sk D cA aS s) (hn : kNest nw) (hX : kXok X lo) (hXs : X s s.heap) (hTy : kTyp tt Ty)
    (hM : ∀ (i : Nat) (C : kCt), ct[i]? = some C → kMet l cl aty lg nw sk mt D cA aS tt Ty lo X C) (hconst : (Cond.constantLong own 287 4294967295).before args s = true)
    (hkd : lkok kd) (hdec : lcdR cc pc kd iA iB) (hchk : lcaR tt aty ct ow cal wr sts S pc kd iA iB = true)
    (hi : i.toInt = (I : Int)) (hIL : I + 6 ≤ L) (hL : L ≤ 100000) (hls : ls.size = nL) (h0 : ls[0]? = some (.val (.ref b))) (h1 : ls[1]? = some (.val (.ref a))) (h2 : ls[2]? = some (.val (.ref a1))) (h3 : ls[3]? = some (.val (.int i)))
    (hblo : b < lo) (hscr : va_X b L xs s s.heap) (hfr : ∀ q, q < lo → H[q]? = s.heap[q]?) (hG : kgood D cA tt Ty lo H) (hst : kst D cA tt Ty (lenv xs I ++ ev) [a, a1, a2, a3] (lsk S []) H [] [])
    (h37 : ∀ T : kT, tt[37]? = some T → 10 < T.2.1) (h38 : ∀ T : kT, tt[38]? = some T → 240 < T.2.1) (hE : ∀ s0 ∈ sts, okE (lenv xs I ++ ev) s0) (hm : lmd D cA tt a1 a2 a3 H) (t1 : Ty a1 36) (t2 : Ty a2 37) (t3 : Ty a3 38)
    (kk : ∀ (H' : Heap) (L' : List Loc), kgood D cA tt Ty lo H' → kfr lo H H' → lmd D cA tt a1 a2 a3 H' → (∀ q ∈ L', lo ≤ q.base) → W p l e R s m args below meth c H' (locs ++ L') cells slots Q (F0 m 2121 ls [])) : W p l e R s m args below meth c H locs cells slots Q (F0 m pc ls []) := by
  obtain ⟨d0, d1, d2, d4, d5, d6, d7⟩ := hdec
  unfold lcaR at hchk
  split at hchk
  case h_2 => cases hchk
  rename_i LA hLA
  refine lv_aload_n hexec hb d0 rfl h1 ?_
  refine l_args hexec hb hown hconst hkd d1 h0 h3 (va_X.kept hscr (hfr b hblo)) hi hIL hL ?_
  have s1 : kst D cA tt Ty (lenv xs I ++ ev) [a, a1, a2, a3] (lsk S ((lav kd).reverse ++ [.inr (.inr (.inl 0))])) H [] ((lvs xs I kd).reverse ++ [.ref a]) := ⟨hst.1, hst.2.1, hst.2.2.1, trivial, kStk_app (lav_okE hkd) ⟨⟨a, rfl, rfl⟩, trivial⟩, hst.2.2.2.2.2⟩
  refine linv_ok hexec hb hml ⟨Nat.le_refl _, hR⟩ hcs hown hts hlg how hK hn hX hXs hTy hG hfr hM s1 hls d2 hLA (fun S' hS x u st' H1 L1 g1 g2 g3 g4 g5 => ?_)
  have hc2 := List.all_eq_true.mp hchk S' hS
  split at hc2
  case h_2 => cases hc2
  rename_i LB hLB
  have hfr1 : ∀ q, q < lo → H1[q]? = s.heap[q]? := fun q hq => (g2.2 q hq).trans (hfr q hq)
  refine lv_aload_n hexec hb d4 rfl h2 ?_
  refine l_args hexec hb hown hconst hkd d5 h0 h3 (va_X.kept hscr (hfr1 b hblo)) hi hIL hL ?_
  have s2 : kst D cA tt Ty (lenv xs I ++ ev ++ x) ([a, a1, a2, a3] ++ u) (lsk S' ((lav kd).reverse ++ .inr (.inr (.inl 1)) :: S'.2.2.2.1)) H1 [] ((lvs xs I kd).reverse ++ .ref a1 :: st') := ⟨g5.1, g5.2.1, g5.2.2.1, trivial, kStk_app (by rw [List.append_assoc]; exact lav_okE hkd) ⟨⟨a1, rfl, rfl⟩, g5.2.2.2.2.1⟩, g5.2.2.2.2.2⟩
  refine linv_ok hexec hb hml ⟨Nat.le_refl _, hR⟩ hcs hown hts hlg how hK hn hX hXs hTy g1 hfr1 hM s2 hls d6 hLB (fun S2 hS2 x2 u2 st2 H2 L2 q1 q2 q3 q4 q5 => ?_)
  have hc3 := List.all_eq_true.mp hc2 S2 hS2
  split at hc3
  case h_2 => cases hc3
  rename_i v w hvw
  cases hkv : lkind false v with
  | false => simp only [hkv] at hc3; cases hc3
  | true =>
  simp only [hkv] at hc3
  cases hkw : kveq S2 v w with
  | false => simp only [hkw] at hc3; cases hc3
  | true =>
  simp only [hkw] at hc3
  have hk := q5.2.2.2.2.1
  rw [hvw] at hk
  have hmd := lend_ok hTy h37 h38 hG hm (kkp_trans g3 q3) q5 (fun s0 hs => okE_ext (okE_ext (hE s0 hs))) rfl rfl rfl t1 t2 t3 hc3
  have fin : W p l e R s m args below meth c H2 (locs ++ L1 ++ L2) cells slots Q (F0 m 2121 ls []) := by
    rw [List.append_assoc]
    exact kk H2 (L1 ++ L2) q1 (kfr_trans g2 q2) hmd (fun q hq => (List.mem_append.mp hq).elim (g4 q) (q4 q))
  match st2, hk with
  | [y, z], hk =>
    have hz := kveq_ok q5 ⟨y, hk.1⟩ hk.2.1 hkw
    obtain ⟨e1, e2, -⟩ := kvok_uniq hkv hk.1 hz
    subst e1
    obtain ⟨n, rfl⟩ := e2 rfl
    exact lv_icmp_eq (x := n) (y := n) hexec hb d7 (by omega) (fun _ => fin) (fun hne => absurd rfl hne)
  | [], hk => exact hk.elim
  | [_], hk => exact hk.2.elim
  | _ :: _ :: _ :: _, hk => exact hk.2.2.elim
end LCASE2
