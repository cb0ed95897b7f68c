/-! LOADS AND STORES, in the abstract -/
def kfadd (S : kS) (q : kF) : kS := (S.1, S.2.1, S.2.2.1, S.2.2.2.1, q :: S.2.2.2.2.1, S.2.2.2.2.2)
def kldI (S : kS) (r : Nat) (x : kL) : kQ → List (kS × kV)
  | [] => []
  | q :: t => (match kz (q.2 - q.1) with
    | true => (kfadd S (r, x, .inl (kcst q.1)), .inl (kcst q.1))
    | false => (kfadd (kpush S q) (r, x, .inl (ksym S.1.length)), .inl (ksym S.1.length))) :: kldI S r x t
def kldL (S : kS) (r : Nat) (x : kL) : kQ → List (kS × kV)
  | [] => []
  | q :: t => (match kz (q.2 - q.1) with
    | true => (kfadd S (r, x, .inr (.inl (kcst q.1))), .inr (.inl (kcst q.1)))
    | false => (kfadd (kpush S q) (r, x, .inr (.inl (ksym S.1.length))), .inr (.inl (ksym S.1.length)))) :: kldL S r x t
def kldP (S : kS) (r : Nat) (x : kL) (p : kP) : List (kS × kV) := match p with
  | .inl q => kldI S r x q
  | .inr (.inl q) => kldL S r x q
  | .inr (.inr t) => [(kfadd (kpushR S t) (r, x, .inr (.inr (.inl S.2.1.length))), .inr (.inr (.inl S.2.1.length)))]
def kload (tt : List kT) (S : kS) (r : Nat) (x : kL) : Option (List (kS × kV)) := match S.2.1[r]? with
  | none => none
  | some t => match tt[t]? with
    | none => none
    | some T => match kbt S x 0 (Int.ofNat T.2.1 - 1) with
      | false => none
      | true => match kfind S.2.2.2.2.1 r x with
        | some v => some [(S, v)]
        | none => match kspS S r x T.2.2.2 with
          | some p => some (kldP S r x p)
          | none => match kspR S x T.2.2.1 with
            | some p => some (kldP S r x p)
            | none => none
section KLS
variable {D : va_G} {cA : Nat → ClassId} {tt : List kT} {Ty : Nat → Nat → Prop} {env : List Int} {ren : List Nat} {S : kS} {H : Heap} {lv : List (Nat × Value)} {st : List Value}
theorem kfadd_ok {q : kF} (h : kst D cA tt Ty env ren S H lv st) (hq : kfok D cA tt Ty env ren H q) : kst D cA tt Ty env ren (kfadd S q) H lv st := by
  obtain ⟨a, b, c, d, e, f⟩ := h
  refine ⟨a, b, c, d, e, fun p hp => ?_⟩
  rcases List.mem_cons.mp hp with rfl | hp
  · exact hq
  · exact f p hp
theorem kldP_ok {r a t z : Nat} {T : kT} {V : Nat → Value} {x : kL} {p : kP} (hTy : kTyp tt Ty) (h : kst D cA tt Ty env ren S H lv st) (ha : ren[r]? = some a) (ht : Ty a t) (hT : tt[t]? = some T) (hc : kcell D cA T a H V) (hx : kev env x = some (z : Int)) (hz : z < T.2.1) (hp : kpok Ty p (V z)) :
    ∃ alt ∈ kldP S r x p, ∃ e u, kst D cA tt Ty (env ++ e) (ren ++ u) alt.1 H lv st ∧ kvok (env ++ e) (ren ++ u) alt.2 (V z) := by
  have hf : ∀ (e : List Int) (u : List Nat) (v : kV), kvok (env ++ e) (ren ++ u) v (V z) → kfok D cA tt Ty (env ++ e) (ren ++ u) H (r, x, v) := fun e u v hv => kfok_mk hTy ⟨a, t, T, V, z, kget_ext ha, ht, hT, hc, kev_ext hx, hz, hv⟩
  match p, hp with
  | .inl q, ⟨n, hn, r0, hr0, b1, b2⟩ =>
    have key : ∀ q : kQ, r0 ∈ q → ∃ alt ∈ kldI S r x q, ∃ e u, kst D cA tt Ty (env ++ e) (ren ++ u) alt.1 H lv st ∧ kvok (env ++ e) (ren ++ u) alt.2 (V z) := by
      intro q
      induction q with
      | nil => intro h; cases h
      | cons r1 q ih =>
        intro hm
        rcases List.mem_cons.mp hm with e | hm
        · subst e
          refine ⟨_, List.mem_cons_self, ?_⟩
          cases hk : kz (r0.2 - r0.1) with
          | true =>
            have e1 := kz_iff.mp hk
            have hv : kvok (env ++ []) (ren ++ []) (.inl (kcst r0.1)) (V z) := ⟨n, hn, by rw [kcst_ev]; congr 1; omega⟩
            exact ⟨[], [], kfadd_ok (by rw [List.append_nil, List.append_nil]; exact h) (hf [] [] _ hv), hv⟩
          | false =>
            obtain ⟨h1, h2⟩ := kpush_ok (q := r0) h b1 b2
            have hv : kvok (env ++ [n.toInt]) (ren ++ []) (.inl (ksym S.1.length)) (V z) := ⟨n, hn, h2⟩
            exact ⟨[n.toInt], [], kfadd_ok h1 (hf _ _ _ hv), hv⟩
        · obtain ⟨alt, h1, h2⟩ := ih hm
          exact ⟨alt, List.mem_cons_of_mem _ h1, h2⟩
    exact key q hr0
  | .inr (.inl q), ⟨n, hn, r0, hr0, b1, b2⟩ =>
    have key : ∀ q : kQ, r0 ∈ q → ∃ alt ∈ kldL S r x q, ∃ e u, kst D cA tt Ty (env ++ e) (ren ++ u) alt.1 H lv st ∧ kvok (env ++ e) (ren ++ u) alt.2 (V z) := by
      intro q
      induction q with
      | nil => intro h; cases h
      | cons r1 q ih =>
        intro hm
        rcases List.mem_cons.mp hm with e | hm
        · subst e
          refine ⟨_, List.mem_cons_self, ?_⟩
          cases hk : kz (r0.2 - r0.1) with
          | true =>
            have e1 := kz_iff.mp hk
            have hv : kvok (env ++ []) (ren ++ []) (.inr (.inl (kcst r0.1))) (V z) := ⟨n, hn, by rw [kcst_ev]; congr 1; omega⟩
            exact ⟨[], [], kfadd_ok (by rw [List.append_nil, List.append_nil]; exact h) (hf [] [] _ hv), hv⟩
          | false =>
            obtain ⟨h1, h2⟩ := kpush_ok (q := r0) h b1 b2
            have hv : kvok (env ++ [n.toInt]) (ren ++ []) (.inr (.inl (ksym S.1.length))) (V z) := ⟨n, hn, h2⟩
            exact ⟨[n.toInt], [], kfadd_ok h1 (hf _ _ _ hv), hv⟩
        · obtain ⟨alt, h1, h2⟩ := ih hm
          exact ⟨alt, List.mem_cons_of_mem _ h1, h2⟩
    exact key q hr0
  | .inr (.inr t'), ⟨a', hn, ht'⟩ =>
    obtain ⟨h1, h2⟩ := kpushR_ok h ht'
    have hv : kvok (env ++ []) (ren ++ [a']) (.inr (.inr (.inl S.2.1.length))) (V z) := ⟨a', hn, h2⟩
    exact ⟨_, List.mem_cons_self, [], [a'], kfadd_ok h1 (hf _ _ _ hv), hv⟩
theorem kload_ok {lo r : Nat} {x : kL} {w : Int} {alts : List (kS × kV)} (hTy : kTyp tt Ty) (hG : kgood D cA tt Ty lo H) (h : kst D cA tt Ty env ren S H lv st) (hx : kev env x = some w) (hl : kload tt S r x = some alts) :
    ∃ (a t : Nat) (T : kT) (V : Nat → Value) (z : Nat), S.2.1[r]? = some t ∧ ren[r]? = some a ∧ Ty a t ∧ tt[t]? = some T ∧ lo ≤ a ∧ kcell D cA T a H V ∧ kvals Ty T V ∧ w = (z : Int) ∧ z < T.2.1 ∧ ∃ alt ∈ alts, ∃ e u, kst D cA tt Ty (env ++ e) (ren ++ u) alt.1 H lv st ∧ kvok (env ++ e) (ren ++ u) alt.2 (V z) := by
  unfold kload at hl
  cases h1 : S.2.1[r]? with
  | none => rw [h1] at hl; cases hl
  | some t =>
    rw [h1] at hl; dsimp only at hl
    cases h2 : tt[t]? with
    | none => rw [h2] at hl; cases hl
    | some T =>
      rw [h2] at hl; dsimp only at hl
      cases h3 : kbt S x 0 (Int.ofNat T.2.1 - 1) with
      | false => rw [h3] at hl; cases hl
      | true =>
        rw [h3] at hl; dsimp only at hl
        obtain ⟨a, ha, ht⟩ := kRt_at h.2.2.1 h1
        obtain ⟨hlo, V, hc, hv⟩ := hG.1 a t T ht h2
        obtain ⟨b1, b2⟩ := kbt_ok h hx h3
        have b2 : w ≤ (T.2.1 : Int) - 1 := b2
        have hw : w = ((w.toNat : Nat) : Int) := (Int.toNat_of_nonneg b1).symm
        have hx' : kev env x = some ((w.toNat : Nat) : Int) := by rw [← hw]; exact hx
        have hz : w.toNat < T.2.1 := by omega
        refine ⟨a, t, T, V, w.toNat, rfl, ha, ht, h2, hlo, hc, hv, hw, hz, ?_⟩
        cases h4 : kfind S.2.2.2.2.1 r x with
        | some v =>
          rw [h4] at hl; dsimp only at hl
          obtain rfl := Option.some.inj hl
          refine ⟨_, List.mem_cons_self, [], [], by rw [List.append_nil, List.append_nil]; exact h, ?_⟩
          obtain ⟨a', t', T', V', z', f1, f2, f3, f4, f5, f6, f7⟩ := kfind_ok h h4
          have ea : a' = a := Option.some.inj (f1.symm.trans ha)
          subst ea
          have et := kTyp_eq hTy f2 ht f3 h2
          subst et
          have eT : T' = T := Option.some.inj (f3.symm.trans h2)
          subst eT
          have ez : (z' : Int) = ((w.toNat : Nat) : Int) := Option.some.inj (f5.symm.trans hx')
          have ez : z' = w.toNat := by omega
          subst ez
          rw [List.append_nil, List.append_nil, ← kcell_uniq f4 hc hz]
          exact f7
        | none =>
          rw [h4] at hl; dsimp only at hl
          cases h5 : kspS S r x T.2.2.2 with
          | some p =>
            rw [h5] at hl; dsimp only at hl
            obtain rfl := Option.some.inj hl
            exact kldP_ok hTy h ha ht h2 hc hx' hz (kspS_ok hTy h ha ht h2 hc hx' hv.2 h5)
          | none =>
            rw [h5] at hl; dsimp only at hl
            cases h6 : kspR S x T.2.2.1 with
            | none => rw [h6] at hl; cases hl
            | some p =>
              rw [h6] at hl; dsimp only at hl
              obtain rfl := Option.some.inj hl
              exact kldP_ok hTy h ha ht h2 hc hx' hz (kspR_ok (T := T) h hx' hv.1 h6)
end KLS
/-- x and y are not the same -/
def kneS (S : kS) (x y : kL) : Bool := match kgeS S (kofs (ksub x y) (-1)) with
  | true => true
  | false => kgeS S (kofs (ksub y x) (-1))
/-- x isn't one of b, b + s, .. (n of them) -/
def koff (S : kS) (x : kL) (b s n : Nat) : Bool := match n with
  | 0 => true
  | k + 1 => match kgeS S (ksub (kcst (Int.ofNat b - 1)) x) with
    | true => true
    | false => kgeS S (kofs x (-(Int.ofNat (b + s * k + 1))))
/-- what is behind a writing to index x of a cell of type t -/
def kkeepN (S : kS) (t : Nat) (x : kL) (q : kF) : Bool := match S.2.1[q.1]? with
  | some t' => match Nat.beq t' t with
    | false => Nat.blt t' 1000
    | true => kneS S x q.2.1
  | none => false
def kkeepG (S : kS) (t : Nat) (x : kL) : Bool := match Nat.beq t 40 with
  | true => false
  | false => match Nat.beq t 36 with
    | false => true
    | true => kneS S x (kcst 4) && (kneS S x (kcst 8) && (kneS S x (kcst 9) && (kneS S x (kcst 10) && kneS S x (kcst 12))))
def kkeep (S : kS) (t : Nat) (x : kL) (q : kF) : Bool := match kghx q.2.1 with
  | true => kkeepG S t x
  | false => kkeepN S t x q
abbrev kW : Type := List (Nat × Option Nat)
def kwr (w : kW) (t : Nat) (x : kL) : Bool := w.any (fun q => match Nat.beq q.1 t with
  | true => match q.2 with
    | none => true
    | some j => kLeq x (kcst (Int.ofNat j))
  | false => false)
/-- what may be written without touching what kY says -/
def kyS (S : kS) (t N : Nat) (x : kL) : Bool := match kyf t with
  | true => true
  | false => match Nat.beq t 12 with
    | true => match Nat.blt 3 N with
      | true => match kneS S x (kcst 1) with
        | true => match kneS S x (kcst 2) with
          | true => kneS S x (kcst 3)
          | false => false
        | false => false
      | false => false
    | false => false
theorem kY_fld {D : va_G} {cA : Nat → ClassId} {tt : List kT} {Ty : Nat → Nat → Prop} {H H1 : Heap} {a z : Nat} {T : kT} {V0 : Nat → Value} {y : Value} (hTy : kTyp tt Ty) (h : kY D cA tt Ty H) (ha : Ty a 12) (hT : tt[12]? = some T) (hN : 3 < T.2.1) (hc : kcell D cA T a H V0) (hc1 : kcell D cA T a H1 (updV V0 z y)) (h1 : z ≠ 1) (h2 : z ≠ 2) (h3 : z ≠ 3) (ho : ∀ q, q ≠ a → H1[q]? = H[q]?) : kY D cA tt Ty H1 := by
  refine ⟨fun a' T' V w1 w2 w3 => ?_, ?_⟩
  · have eT : T' = T := Option.some.inj (w2.symm.trans hT)
    subst eT
    by_cases e : a' = a
    · subst e
      obtain ⟨g1, g2, g3⟩ := h.1 a' T' V0 w1 w2 hc
      have e1 := kcell_uniq w3 hc1 (j := 1) (by omega)
      have e2 := kcell_uniq w3 hc1 (j := 2) (by omega)
      have e3 := kcell_uniq w3 hc1 (j := 3) (by omega)
      simp only [updV, Ne.symm h1, if_false] at e1
      simp only [updV, Ne.symm h2, if_false] at e2
      simp only [updV, Ne.symm h3, if_false] at e3
      exact ⟨e1.trans g1, e2.trans g2, e3.trans g3⟩
    · exact h.1 a' T' V w1 w2 (kcell_kept w3 (ho a' e).symm)
  intro a' b' c' T' To Tw V Vo Vw j n w1 w2 w3 w4 w5 w6 w7 w8 w9 w10 w11 w12 w13 w14
  have eT : T' = T := Option.some.inj (w2.symm.trans hT)
  subst eT
  have k : ∀ (x t' : Nat) (T2 : kT), Ty x t' → tt[t']? = some T2 → 12 ≠ t' → H[x]? = H1[x]? := fun x t' T2 g1 g2 g3 => (ho x (fun e => by
    subst e
    exact g3 (kTyp_eq hTy ha g1 hT g2))).symm
  by_cases e : a' = a
  · subst e
    have e1 := kcell_uniq w3 hc1 (j := 1) (by omega)
    have e3 := kcell_uniq w3 hc1 (j := 3) (by omega)
    simp only [updV, Ne.symm h1, if_false] at e1
    simp only [updV, Ne.symm h3, if_false] at e3
    exact h.2 a' b' c' T' To Tw V0 Vo Vw j n w1 w2 hc (e1.symm.trans w4) (e3.symm.trans w5) w6 w7 (kcell_kept w8 (k _ _ _ w6 w7 (by decide))) w9 w10 (kcell_kept w11 (k _ _ _ w9 w10 (by decide))) w12 w13 w14
  · exact h.2 a' b' c' T' To Tw V Vo Vw j n w1 w2 (kcell_kept w3 (ho a' e).symm) w4 w5 w6 w7 (kcell_kept w8 (k _ _ _ w6 w7 (by decide))) w9 w10 (kcell_kept w11 (k _ _ _ w9 w10 (by decide))) w12 w13 w14
def kstore (tt : List kT) (wr : kW) (S : kS) (r : Nat) (x : kL) (v : kV) : Option kS := match S.2.1[r]? with
  | none => none
  | some t => match tt[t]? with
    | none => none
    | some T => match kbt S x 0 (Int.ofNat T.2.1 - 1) with
      | false => none
      | true => match T.2.2.1.all (fun q => match koff S x q.1 q.2.1 q.2.2.1 with
          | true => true
          | false => kfit S v q.2.2.2) with
        | false => none
        | true => match T.2.2.2.all (fun q => match koff S x q.1 q.2.1 q.2.2.2.1 with
            | true => kneS S x (kcst (Int.ofNat q.2.2.1))
            | false => false) with
          | false => none
          | true => match (match kwr wr t x with
              | true => kyS S t T.2.1 x
              | false => false) with
            | false => none
            | true => some (S.1, S.2.1, S.2.2.1, S.2.2.2.1, (r, x, v) :: S.2.2.2.2.1.filter (kkeep S t x), S.2.2.2.2.2)
/-- what isn't in wr stays -/
def kkp (D : va_G) (cA : Nat → ClassId) (tt : List kT) (Ty : Nat → Nat → Prop) (wr : kW) (H H1 : Heap) : Prop := ∀ (a t : Nat) (T : kT) (V : Nat → Value) (j : Nat), Ty a t → tt[t]? = some T → kcell D cA T a H V → j < T.2.1 → (∀ w ∈ wr, w.1 = t → w.2 ≠ none ∧ w.2 ≠ some j) → ∃ V', kcell D cA T a H1 V' ∧ V' j = V j
theorem kkp_rfl {D : va_G} {cA : Nat → ClassId} {tt : List kT} {Ty : Nat → Nat → Prop} {wr : kW} {H : Heap} : kkp D cA tt Ty wr H H := fun _ _ _ V _ _ _ h _ _ => ⟨V, h, rfl⟩
theorem kkp_trans {D : va_G} {cA : Nat → ClassId} {tt : List kT} {Ty : Nat → Nat → Prop} {wr : kW} {H H1 H2 : Heap} (h1 : kkp D cA tt Ty wr H H1) (h2 : kkp D cA tt Ty wr H1 H2) : kkp D cA tt Ty wr H H2 := fun a t T V j ht hT hc hj hw => by
  obtain ⟨V', c1, e1⟩ := h1 a t T V j ht hT hc hj hw
  obtain ⟨V2, c2, e2⟩ := h2 a t T V' j ht hT c1 hj hw
  exact ⟨V2, c2, e2.trans e1⟩
section KSS
variable {D : va_G} {cA : Nat → ClassId} {tt : List kT} {Ty : Nat → Nat → Prop} {env : List Int} {ren : List Nat} {S : kS} {H : Heap} {lv : List (Nat × Value)} {st : List Value}
theorem kneS_ok {x y : kL} {a b : Int} (h : kst D cA tt Ty env ren S H lv st) (hx : kev env x = some a) (hy : kev env y = some b) (hn : kneS S x y = true) : a ≠ b := by
  unfold kneS at hn
  cases h1 : kgeS S (kofs (ksub x y) (-1)) with
  | true =>
    have := kgeS_ok h (kofs_ev (ksub_ev hx hy)) h1
    omega
  | false =>
    rw [h1] at hn
    have := kgeS_ok h (kofs_ev (ksub_ev hy hx)) hn
    omega
theorem koff_ok {x : kL} {z b s n : Nat} (h : kst D cA tt Ty env ren S H lv st) (hx : kev env x = some (z : Int)) (hn : koff S x b s n = true) : ∀ P, P < n → z ≠ b + s * P := by
  intro P hP
  cases n with
  | zero => omega
  | succ k =>
    unfold koff at hn
    have hm : s * P ≤ s * k := Nat.mul_le_mul_left s (by omega)
    cases h1 : kgeS S (ksub (kcst (Int.ofNat b - 1)) x) with
    | true =>
      have := kgeS_ok h (ksub_ev kcst_ev hx) h1
      have : 0 ≤ ((b : Int) - 1) - z := this
      omega
    | false =>
      simp only [h1] at hn
      have := kgeS_ok h (kofs_ev hx) hn
      have : 0 ≤ (z : Int) + -((b + s * k + 1 : Nat) : Int) := this
      omega
theorem kstore_ok {lo r : Nat} {x : kL} {w : Int} {v : kV} {y : Value} {wr : kW} {S' : kS} (hTy : kTyp tt Ty) (hG : kgood D cA tt Ty lo H) (h : kst D cA tt Ty env ren S H lv st) (hx : kev env x = some w) (hy : kvok env ren v y) (hl : kstore tt wr S r x v = some S') :
    ∃ (a t : Nat) (T : kT) (V : Nat → Value) (z : Nat), S.2.1[r]? = some t ∧ ren[r]? = some a ∧ Ty a t ∧ tt[t]? = some T ∧ lo ≤ a ∧ kcell D cA T a H V ∧ w = (z : Int) ∧ z < T.2.1 ∧
      ∀ H1 : Heap, kcell D cA T a H1 (updV V z y) → (∀ q, q ≠ a → H1[q]? = H[q]?) → kgood D cA tt Ty lo H1 ∧ kst D cA tt Ty env ren S' H1 lv st ∧ kkp D cA tt Ty wr H H1 := by
  unfold kstore at hl
  cases h1 : S.2.1[r]? with
  | none => rw [h1] at hl; cases hl
  | some t =>
    rw [h1] at hl; dsimp only at hl
    cases h2 : tt[t]? with
    | none => rw [h2] at hl; cases hl
    | some T =>
      rw [h2] at hl; dsimp only at hl
      cases h3 : kbt S x 0 (Int.ofNat T.2.1 - 1) with
      | false => rw [h3] at hl; cases hl
      | true =>
        rw [h3] at hl; dsimp only at hl
        obtain ⟨a, ha, ht⟩ := kRt_at h.2.2.1 h1
        obtain ⟨hlo, V, hc, hv⟩ := hG.1 a t T ht h2
        obtain ⟨b1, b2⟩ := kbt_ok h hx h3
        have b2 : w ≤ (T.2.1 : Int) - 1 := b2
        have hw : w = ((w.toNat : Nat) : Int) := (Int.toNat_of_nonneg b1).symm
        have hx' : kev env x = some ((w.toNat : Nat) : Int) := by rw [← hw]; exact hx
        have hz : w.toNat < T.2.1 := by omega
        refine ⟨a, t, T, V, w.toNat, rfl, ha, ht, h2, hlo, hc, hw, hz, fun H1 hc1 ho => ?_⟩
        split at hl
        · cases hl
        · rename_i h4
          split at hl
          · cases hl
          · rename_i h5
            split at hl
            · cases hl
            · rename_i h60
              obtain rfl := Option.some.inj hl
              have h6 : kwr wr t x = true ∧ kyS S t T.2.1 x = true := by
                cases g1 : kwr wr t x with
                | false => simp [g1] at h60
                | true =>
                  simp only [g1] at h60
                  exact ⟨rfl, h60⟩
              obtain ⟨h6, h6y⟩ := h6
              have hYn : kY D cA tt Ty H1 := by
                unfold kyS at h6y
                cases g1 : kyf t with
                | true => exact kY_kept hTy hG.2 ht h2 g1 ho
                | false =>
                  simp only [g1] at h6y
                  cases g2 : Nat.beq t 12 with
                  | false => simp [g2] at h6y
                  | true =>
                    simp only [g2] at h6y
                    have e12 := Nat.beq_eq.mp g2
                    cases g3 : Nat.blt 3 T.2.1 with
                    | false => simp [g3] at h6y
                    | true =>
                      simp only [g3] at h6y
                      cases g4 : kneS S x (kcst 1) with
                      | false => simp [g4] at h6y
                      | true =>
                        simp only [g4] at h6y
                        cases g5 : kneS S x (kcst 2) with
                        | false => simp [g5] at h6y
                        | true =>
                          simp only [g5] at h6y
                          have n1 := kneS_ok h hx' kcst_ev g4
                          have n2 := kneS_ok h hx' kcst_ev g5
                          have n3 := kneS_ok h hx' kcst_ev h6y
                          subst e12
                          exact kY_fld hTy hG.2 ht h2 (Nat.blt_eq.mp g3) hc hc1 (by omega) (by omega) (by omega) ho
              have hvals : kvals Ty T (updV V w.toNat y) := by
                refine ⟨fun q hq P hP => ?_, fun q hq n P hn hP hPn => ?_⟩
                · have h7 := List.all_eq_true.mp h4 q hq
                  by_cases e : q.1 + q.2.1 * P = w.toNat
                  · simp only [updV, e, if_true]
                    cases h8 : koff S x q.1 q.2.1 q.2.2.1 with
                    | true => exact absurd e.symm (koff_ok h hx' h8 P hP)
                    | false =>
                      simp only [h8] at h7
                      exact kfit_ok h hy h7
                  · simp only [updV, e, if_false]
                    exact hv.1 q hq P hP
                · have h7 := List.all_eq_true.mp h5 q hq
                  cases h8 : koff S x q.1 q.2.1 q.2.2.2.1 with
                  | false => simp [h8] at h7
                  | true =>
                    simp only [h8] at h7
                    have e1 := koff_ok h hx' h8 P hP
                    have e2 := kneS_ok h hx' kcst_ev h7
                    have e2 : ((w.toNat : Nat) : Int) ≠ ((q.2.2.1 : Nat) : Int) := e2
                    have e3 : ¬ q.2.2.1 = w.toNat := by omega
                    simp only [updV, e3, if_false] at hn
                    simp only [updV, Ne.symm e1, if_false]
                    exact hv.2 q hq n P hn hP hPn
              refine ⟨⟨fun a' t' T' ht' hT' => ?_, hYn⟩, ⟨h.1, h.2.1, h.2.2.1, h.2.2.2.1, h.2.2.2.2.1, fun q hq => ?_⟩, fun a' t' T' V' j ht' hT' hc' hj hwr => ?_⟩
              · by_cases e : a' = a
                · subst e
                  have et := kTyp_eq hTy ht' ht hT' h2
                  subst et
                  have eT : T' = T := Option.some.inj (hT'.symm.trans h2)
                  subst eT
                  exact ⟨hlo, _, hc1, hvals⟩
                · obtain ⟨g1, V', g2, g3⟩ := hG.1 a' t' T' ht' hT'
                  exact ⟨g1, V', kcell_kept g2 (ho a' e), g3⟩
              · rcases List.mem_cons.mp hq with rfl | hq
                · exact kfok_mk hTy ⟨a, t, T, _, w.toNat, ha, ht, h2, hc1, hx', hz, by simp only [updV, if_true]; exact hy⟩
                · obtain ⟨hq, hk⟩ := List.mem_filter.mp hq
                  unfold kkeep at hk
                  cases hgx : kghx q.2.1 with
                  | true =>
                    rw [hgx] at hk
                    dsimp only at hk
                    have hfq := h.2.2.2.2.2 q hq
                    unfold kfok at hfq ⊢
                    rw [hgx] at hfq ⊢
                    dsimp only at hfq ⊢
                    unfold kkeepG at hk
                    cases g40 : Nat.beq t 40 with
                    | true => rw [g40] at hk; cases hk
                    | false =>
                      rw [g40] at hk
                      dsimp only at hk
                      have n40 : t ≠ 40 := fun e => by subst e; cases g40
                      refine kfokG_kept hfq (fun a' T' V' ht' hT' hc' => ?_) (fun b' T' V' ht' hT' hc' => ⟨V', kcell_kept hc' (ho b' (fun e => by subst e; exact n40 (kTyp_eq hTy ht ht' h2 hT'))), fun _ _ => rfl⟩)
                      by_cases e : a' = a
                      · subst e
                        have et := kTyp_eq hTy ht' ht hT' h2
                        subst et
                        have eT : T' = T := Option.some.inj (hT'.symm.trans h2)
                        subst eT
                        rw [show Nat.beq 36 36 = true from rfl] at hk
                        dsimp only at hk
                        simp only [Bool.and_eq_true] at hk
                        obtain ⟨k4, k8, k9, k10, k12⟩ := hk
                        have n4 := kneS_ok h hx' kcst_ev k4
                        have n8 := kneS_ok h hx' kcst_ev k8
                        have n9 := kneS_ok h hx' kcst_ev k9
                        have n10 := kneS_ok h hx' kcst_ev k10
                        have n12 := kneS_ok h hx' kcst_ev k12
                        have l38 := hTy.2.2.2.1 T' hT'
                        have u : ∀ j : Nat, j < 38 → j ≠ w.toNat → updV V w.toNat y j = V' j := fun j hj hne => by
                          simp only [updV, hne, if_false]
                          exact kcell_uniq hc hc' (by omega)
                        exact ⟨_, hc1, u 4 (by omega) (by omega), u 8 (by omega) (by omega), u 9 (by omega) (by omega), u 10 (by omega) (by omega), u 12 (by omega) (by omega)⟩
                      · exact ⟨V', kcell_kept hc' (ho a' e), rfl, rfl, rfl, rfl, rfl⟩
                  | false =>
                    rw [hgx] at hk
                    dsimp only at hk
                    obtain ⟨a', t', T', V', z', f1, f2, f3, f4, f5, f6, f7⟩ := kfok_N (h.2.2.2.2.2 q hq) hgx
                    by_cases e : a' = a
                    · subst e
                      have et := kTyp_eq hTy f2 ht f3 h2
                      subst et
                      have eT : T' = T := Option.some.inj (f3.symm.trans h2)
                      subst eT
                      refine kfok_mk hTy ⟨a', t', T', _, z', f1, f2, f3, hc1, f5, f6, ?_⟩
                      have hne : ¬ z' = w.toNat := by
                        unfold kkeepN at hk
                        cases h8 : S.2.1[q.1]? with
                        | none => rw [h8] at hk; cases hk
                        | some t2 =>
                          simp only [h8] at hk
                          have ft := h.2.2.1.2 q.1 t2 a' h8 f1
                          cases h9 : Nat.beq t2 t' with
                          | true =>
                            simp only [h9] at hk
                            have := kneS_ok h hx' f5 hk
                            omega
                          | false =>
                            exfalso
                            simp only [h9] at hk
                            have l1 : t2 < 1000 := Nat.blt_eq.mp hk
                            have l2 : t' < 1000 := Nat.lt_of_lt_of_le (List.getElem?_eq_some_iff.mp h2).1 hTy.2.1
                            have := hTy.1 _ _ _ l1 l2 ft ht
                            subst this
                            rw [Nat.beq_refl] at h9
                            cases h9
                      simp only [updV, hne, if_false]
                      rw [← kcell_uniq f4 hc f6]
                      exact f7
                    · exact kfok_mk hTy ⟨a', t', T', V', z', f1, f2, f3, kcell_kept f4 (ho a' e), f5, f6, f7⟩
              · by_cases e : a' = a
                · subst e
                  have et := kTyp_eq hTy ht' ht hT' h2
                  subst et
                  have eT : T' = T := Option.some.inj (hT'.symm.trans h2)
                  subst eT
                  refine ⟨_, hc1, ?_⟩
                  obtain ⟨q, hq, hq2⟩ := List.any_eq_true.mp h6
                  cases h8 : Nat.beq q.1 t' with
                  | false => simp [h8] at hq2
                  | true =>
                    simp only [h8] at hq2
                    obtain ⟨n1, n2⟩ := hwr q hq (Nat.beq_eq.mp h8)
                    cases h9 : q.2 with
                    | none => exact absurd h9 n1
                    | some i =>
                      rw [h9] at hq2
                      have e3 := kLeq_eq hq2
                      rw [e3] at hx'
                      have e4 : ((i : Nat) : Int) = ((w.toNat : Nat) : Int) := Option.some.inj (kcst_ev.symm.trans hx')
                      have hne : ¬ j = w.toNat := by
                        intro e5
                        apply n2
                        rw [h9]
                        congr 1
                        omega
                      simp only [updV, hne, if_false]
                      exact kcell_uniq hc hc' hj
                · exact ⟨V', kcell_kept hc' (ho a' e), rfl⟩
end KSS
