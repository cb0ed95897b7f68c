/-! VALUES: int, long, reference, what lcmp gives -/
abbrev kV : Type := kL ⊕ kL ⊕ Nat ⊕ (kL × kL)
def kcmp (a b : Int) : Int := if a < b then -1 else if a = b then 0 else 1
def kvok (env : List Int) (ren : List Nat) (a : kV) (v : Value) : Prop := match a with
  | .inl f => ∃ n : Int32, v = .int n ∧ kev env f = some n.toInt
  | .inr (.inl f) => ∃ n : Int64, v = .long n ∧ kev env f = some n.toInt
  | .inr (.inr (.inl k)) => ∃ q : Nat, v = .ref q ∧ ren[k]? = some q
  | .inr (.inr (.inr w)) => ∃ (n : Int32) (a b : Int), v = .int n ∧ kev env w.1 = some a ∧ kev env w.2 = some b ∧ n.toInt = kcmp a b
theorem kvok_ext {env t : List Int} {ren u : List Nat} {a : kV} {v : Value} (h : kvok env ren a v) : kvok (env ++ t) (ren ++ u) a v := by
  match a, h with
  | .inl x, ⟨n, h1, h2⟩ => exact ⟨n, h1, kev_ext h2⟩
  | .inr (.inl x), ⟨n, h1, h2⟩ => exact ⟨n, h1, kev_ext h2⟩
  | .inr (.inr (.inl k)), ⟨q, h1, h2⟩ => exact ⟨q, h1, kget_ext h2⟩
  | .inr (.inr (.inr w)), ⟨n, a, b, h1, h2, h3, h4⟩ => exact ⟨n, a, b, h1, kev_ext h2, kev_ext h3, h4⟩
/-! equality of forms, as a Bool -/
def kTeq : List (Nat × Int) → List (Nat × Int) → Bool
  | [], [] => true
  | a :: s, b :: t => match Nat.beq a.1 b.1 with
    | true => match kz (a.2 - b.2) with
      | true => kTeq s t
      | false => false
    | false => false
  | _, _ => false
theorem kTeq_eq : ∀ {s t : List (Nat × Int)}, kTeq s t = true → s = t
  | [], [], _ => rfl
  | [], b :: t, h => by simp [kTeq] at h
  | a :: s, [], h => by simp [kTeq] at h
  | a :: s, b :: t, h => by
    unfold kTeq at h
    cases h1 : Nat.beq a.1 b.1 with
    | false => rw [h1] at h; cases h
    | true =>
      rw [h1] at h
      cases h2 : kz (a.2 - b.2) with
      | false => rw [h2] at h; cases h
      | true =>
        rw [h2] at h
        have e1 := Nat.beq_eq.mp h1
        have e2 := kz_iff.mp h2
        rw [kTeq_eq (s := s) (t := t) h]
        congr 1
        exact Prod.ext e1 (by omega)
def kLeq (f g : kL) : Bool := match kz (f.2 - g.2) with
  | true => kTeq f.1 g.1
  | false => false
theorem kLeq_eq {f g : kL} (h : kLeq f g = true) : f = g := by
  unfold kLeq at h
  cases h2 : kz (f.2 - g.2) with
  | false => rw [h2] at h; cases h
  | true =>
    rw [h2] at h
    have e2 := kz_iff.mp h2
    exact Prod.ext (kTeq_eq h) (by omega)
/-- f = c * g -/
def kdvT (c : Int) : List (Nat × Int) → Option (List (Nat × Int))
  | [] => some []
  | q :: t => match kz (q.2 - c * (q.2 / c)), kdvT c t with
    | true, some r => some ((q.1, q.2 / c) :: r)
    | _, _ => none
theorem kdvT_ok {env : List Int} {c : Int} : ∀ {l g : List (Nat × Int)} {z : Int}, kdvT c l = some g → kevT env l = some z → ∃ w, kevT env g = some w ∧ z = c * w
  | [], g, z, h, hz => by
    have e : [] = g := Option.some.inj h
    subst e
    have e : (0 : Int) = z := Option.some.inj hz
    exact ⟨0, rfl, by omega⟩
  | q :: t, g, z, h, hz => by
    obtain ⟨y, r, h1, h2, rfl⟩ := kevT_cons hz
    unfold kdvT at h
    cases h3 : kz (q.2 - c * (q.2 / c)) with
    | false => rw [h3] at h; simp at h
    | true =>
      cases h4 : kdvT c t with
      | none => rw [h3, h4] at h; simp at h
      | some g' =>
        rw [h3, h4] at h
        have e : (q.1, q.2 / c) :: g' = g := Option.some.inj h
        subst e
        obtain ⟨w, h5, rfl⟩ := kdvT_ok h4 h2
        refine ⟨_, kevT_mk (q := (q.1, q.2 / c)) h1 h5, ?_⟩
        have e3 := kz_iff.mp h3
        show q.2 * y + c * w = c * (q.2 / c * y + w)
        rw [Int.mul_add, ← Int.mul_assoc]
        have : q.2 = c * (q.2 / c) := by omega
        rw [← this]
def kdv (c : Int) (f : kL) : Option kL := match kz (f.2 - c * (f.2 / c)), kdvT c f.1 with
  | true, some r => some (r, f.2 / c)
  | _, _ => none
theorem kdv_ok {env : List Int} {c : Int} {f g : kL} {z : Int} (h : kdv c f = some g) (hz : kev env f = some z) : ∃ w, kev env g = some w ∧ z = c * w := by
  obtain ⟨r, h1, rfl⟩ := kev_of hz
  unfold kdv at h
  cases h3 : kz (f.2 - c * (f.2 / c)) with
  | false => rw [h3] at h; simp at h
  | true =>
    cases h4 : kdvT c f.1 with
    | none => rw [h3, h4] at h; simp at h
    | some g' =>
      rw [h3, h4] at h
      have e : (g', f.2 / c) = g := Option.some.inj h
      subst e
      obtain ⟨w, h5, rfl⟩ := kdvT_ok h4 h1
      refine ⟨_, kev_mk (f := (g', f.2 / c)) h5, ?_⟩
      have e3 := kz_iff.mp h3
      show c * w + f.2 = c * (w + f.2 / c)
      rw [Int.mul_add]
      omega
/-! CELLS: a type of cell is (kind, size, runs, runs by a count that stands in the cell itself); kind below 100: an object of that number in the list of names; else an array.
A run is (base, stride, count, specification); by itself: (base, stride, where the count stands, the most, specification) -/
abbrev kP : Type := kQ ⊕ kQ ⊕ Nat
abbrev kRun : Type := Nat × Nat × Nat × kP
abbrev kSelf : Type := Nat × Nat × Nat × Nat × kP
abbrev kT : Type := Nat × Nat × List kRun × List kSelf
def kpok (Ty : Nat → Nat → Prop) (p : kP) (v : Value) : Prop := match p with
  | .inl q => ∃ n : Int32, v = .int n ∧ ∃ r ∈ q, r.1 ≤ n.toInt ∧ n.toInt ≤ r.2
  | .inr (.inl q) => ∃ n : Int64, v = .long n ∧ ∃ r ∈ q, r.1 ≤ n.toInt ∧ n.toInt ≤ r.2
  | .inr (.inr t) => ∃ a : Nat, v = .ref a ∧ Ty a t
def kcell (D : va_G) (cA : Nat → ClassId) (T : kT) (a : Nat) (H : Heap) (V : Nat → Value) : Prop := match Nat.blt T.1 100 with
  | true => t_OB a (D.1 T.1) T.2.1 (D.2 T.1) H V
  | false => H[a]? = some (arrV (cA (T.1 - 100)) T.2.1 V)
theorem kcell_kept {D : va_G} {cA : Nat → ClassId} {T : kT} {a : Nat} {H H1 : Heap} {V : Nat → Value} (h : kcell D cA T a H V) (hq : H1[a]? = H[a]?) : kcell D cA T a H1 V := by
  unfold kcell at h ⊢
  cases hb : Nat.blt T.1 100 with
  | true => rw [hb] at h; exact t_OB.kept h hq
  | false => rw [hb] at h; exact hq.trans h
theorem kcell_uniq {D : va_G} {cA : Nat → ClassId} {T : kT} {a : Nat} {H : Heap} {V V' : Nat → Value} (h : kcell D cA T a H V) (h' : kcell D cA T a H V') {j : Nat} (hj : j < T.2.1) : V j = V' j := by
  unfold kcell at h h'
  cases hb : Nat.blt T.1 100 with
  | true =>
    rw [hb] at h h'
    obtain ⟨c, h1, -, -, h2⟩ := h
    obtain ⟨c', h1', -, -, h2'⟩ := h'
    rw [h1] at h1'
    obtain rfl := Option.some.inj h1'
    have := (h2 j hj).symm.trans (h2' j hj)
    exact Option.some.inj this
  | false =>
    rw [hb] at h h'
    have e := Option.some.inj (h.symm.trans h')
    have := arrV_read (cA (T.1 - 100)) V hj
    rw [e, arrV_read _ _ hj] at this
    exact (Option.some.inj this).symm
/-- what the cell holds is as its type says -/
def kvals (Ty : Nat → Nat → Prop) (T : kT) (V : Nat → Value) : Prop :=
  (∀ r ∈ T.2.2.1, ∀ P, P < r.2.2.1 → kpok Ty r.2.2.2 (V (r.1 + r.2.1 * P))) ∧
  (∀ r ∈ T.2.2.2, ∀ (n : Int32) (P : Nat), V r.2.2.1 = .int n → P < r.2.2.2.1 → (P : Int) < n.toInt → kpok Ty r.2.2.2.2 (V (r.1 + r.2.1 * P)))
/-- what is held between two rows of one object (type 12: its rows 13 and 15): where the first has 1, the second has at most 12 -/
def kY (D : va_G) (cA : Nat → ClassId) (tt : List kT) (Ty : Nat → Nat → Prop) (H : Heap) : Prop := (∀ (a : Nat) (T : kT) (V : Nat → Value), Ty a 12 → tt[12]? = some T → kcell D cA T a H V → V 1 = .ref (a + 1) ∧ V 2 = .ref (a + 2) ∧ V 3 = .ref (a + 3)) ∧ ∀ (a b c : Nat) (T To Tw : kT) (V Vo Vw : Nat → Value) (j : Nat) (n : Int32), Ty a 12 → tt[12]? = some T → kcell D cA T a H V → V 1 = .ref b → V 3 = .ref c → Ty b 13 → tt[13]? = some To → kcell D cA To b H Vo → Ty c 15 → tt[15]? = some Tw → kcell D cA Tw c H Vw → j < 40 → Vo j = .int 1 → Vw j = .int n → n.toInt ≤ 12
def kyf (t : Nat) : Bool := match Nat.beq t 12 with
  | true => false
  | false => match Nat.beq t 13 with
    | true => false
    | false => match Nat.beq t 15 with
      | true => false
      | false => true
def kgood (D : va_G) (cA : Nat → ClassId) (tt : List kT) (Ty : Nat → Nat → Prop) (lo : Nat) (H : Heap) : Prop := (∀ (a t : Nat) (T : kT), Ty a t → tt[t]? = some T → lo ≤ a ∧ ∃ V, kcell D cA T a H V ∧ kvals Ty T V) ∧ kY D cA tt Ty H
/-- one address, one type (of those that are cells) -/
def kTyp (tt : List kT) (Ty : Nat → Nat → Prop) : Prop := (∀ a t t', t < 1000 → t' < 1000 → Ty a t → Ty a t' → t = t') ∧ tt.length ≤ 1000 ∧ (∀ (t : Nat) (T : kT), tt[t]? = some T → T.2.1 < 5000) ∧ (∀ T : kT, tt[36]? = some T → T.2.1 = 38) ∧ ∀ T : kT, tt[40]? = some T → T.2.1 = 900
theorem kTyp_eq {tt : List kT} {Ty : Nat → Nat → Prop} {a t t' : Nat} {T T' : kT} (h : kTyp tt Ty) (h1 : Ty a t) (h2 : Ty a t') (h3 : tt[t]? = some T) (h4 : tt[t']? = some T') : t = t' :=
  h.1 a t t' (Nat.lt_of_lt_of_le (List.getElem?_eq_some_iff.mp h3).1 h.2.1) (Nat.lt_of_lt_of_le (List.getElem?_eq_some_iff.mp h4).1 h.2.1) h1 h2
theorem kyf_ne {t : Nat} (h : kyf t = true) : t ≠ 12 ∧ t ≠ 13 ∧ t ≠ 15 := by
  unfold kyf at h
  refine ⟨fun e => ?_, fun e => ?_, fun e => ?_⟩ <;> subst e <;> simp at h
theorem kY_kept {D : va_G} {cA : Nat → ClassId} {tt : List kT} {Ty : Nat → Nat → Prop} {H H1 : Heap} {a t : Nat} {T : kT} (hTy : kTyp tt Ty) (h : kY D cA tt Ty H) (ha : Ty a t) (hT : tt[t]? = some T) (ht : kyf t = true) (ho : ∀ q, q ≠ a → H1[q]? = H[q]?) : kY D cA tt Ty H1 := by
  obtain ⟨n1, n2, n3⟩ := kyf_ne ht
  have k : ∀ (x t' : Nat) (T' : kT), Ty x t' → tt[t']? = some T' → t ≠ t' → H[x]? = H1[x]? := fun x t' T' g1 g2 g3 => (ho x (fun e => by
    subst e
    exact g3 (kTyp_eq hTy ha g1 hT g2))).symm
  refine ⟨fun a' T' V h1 h2 h3 => h.1 a' T' V h1 h2 (kcell_kept h3 (k _ _ _ h1 h2 n1)), fun a' b' c' T' To Tw V Vo Vw j n h1 h2 h3 h4 h5 h6 h7 h8 h9 h10 h11 h12 h13 h14 => ?_⟩
  exact h.2 a' b' c' T' To Tw V Vo Vw j n h1 h2 (kcell_kept h3 (k _ _ _ h1 h2 n1)) h4 h5 h6 h7 (kcell_kept h8 (k _ _ _ h6 h7 n2)) h9 h10 (kcell_kept h11 (k _ _ _ h9 h10 n3)) h12 h13 h14
/-! FACTS: (reference, index, value) -/
abbrev kF : Type := Nat × kL × kV
/-- which of four words the object of type 36 stands at (by its numbers 12, 10, 9, 8 and its row 40): 0 none -/
def kmb (Vt : Nat → Value) : Nat → List Int → Bool
  | _, [] => true
  | k, c :: t => (match Vt k with
    | .int b => decide (b.toInt = c)
    | _ => false) && kmb Vt (k + 1) t
def kmt (V Vt : Nat → Value) (w : List Int) : Bool := match V 12, V 10, V 9, V 8 with
  | .int fk, .int tk, .int fr, .int at_ => (decide (fk.toInt = 0 ∧ tk.toInt = 1 ∧ at_.toInt - fr.toInt = (w.length : Int) ∧ 0 ≤ fr.toInt ∧ at_.toInt ≤ 900)) && kmb Vt fr.toInt.toNat w
  | _, _, _, _ => false
def kw1 : List Int := [112, 108, 97, 121, 101, 114]
def kw2 : List Int := [117, 109, 112, 105, 114, 101]
def kw3 : List Int := [119, 105, 110, 100]
def kw4 : List Int := [102, 114, 105, 101, 110, 100, 115]
def kwhich (V Vt : Nat → Value) : Int := if kmt V Vt kw1 = true then 1 else if kmt V Vt kw2 = true then 2 else if kmt V Vt kw3 = true then 3 else if kmt V Vt kw4 = true then 4 else 0
theorem kmb_congr {V V' : Nat → Value} : ∀ {w : List Int} {k : Nat}, (∀ j, j < k + w.length → V' j = V j) → kmb V' k w = kmb V k w
  | [], k, _ => rfl
  | c :: t, k, h => by
    unfold kmb
    rw [h k (by simp), kmb_congr (w := t) (k := k + 1) (fun j hj => h j (by simp; omega))]
theorem kmt_congr {V V' Vt Vt' : Nat → Value} {w : List Int} (h1 : V' 12 = V 12) (h2 : V' 10 = V 10) (h3 : V' 9 = V 9) (h4 : V' 8 = V 8) (h5 : ∀ j, j < 900 → Vt' j = Vt j) : kmt V' Vt' w = kmt V Vt w := by
  unfold kmt
  rw [h1, h2, h3, h4]
  split
  · rename_i fk tk fr at_ _ _ _ _
    by_cases hc : fk.toInt = 0 ∧ tk.toInt = 1 ∧ at_.toInt - fr.toInt = (w.length : Int) ∧ 0 ≤ fr.toInt ∧ at_.toInt ≤ 900
    · rw [kmb_congr (V := Vt) (V' := Vt') (fun j hj => h5 j (by omega))]
    · simp [hc]
  · rfl
theorem kwhich_congr {V V' Vt Vt' : Nat → Value} (h1 : V' 12 = V 12) (h2 : V' 10 = V 10) (h3 : V' 9 = V 9) (h4 : V' 8 = V 8) (h5 : ∀ j, j < 900 → Vt' j = Vt j) : kwhich V' Vt' = kwhich V Vt := by
  unfold kwhich
  rw [kmt_congr h1 h2 h3 h4 h5, kmt_congr h1 h2 h3 h4 h5, kmt_congr h1 h2 h3 h4 h5, kmt_congr h1 h2 h3 h4 h5]
theorem kwhich_in (V Vt : Nat → Value) : 0 ≤ kwhich V Vt ∧ kwhich V Vt ≤ 4 := by
  unfold kwhich
  split
  · omega
  · split
    · omega
    · split
      · omega
      · split <;> omega
/-- the index 5000 stands for that -/
def kghx (x : kL) : Bool := kLeq x (kcst 5000)
theorem kghx_ev {env : List Int} {x : kL} {z : Int} (h : kghx x = true) (hz : kev env x = some z) : z = 5000 := by
  have e := kLeq_eq h
  subst e
  exact (Option.some.inj (kcst_ev.symm.trans hz)).symm
def kfokN (D : va_G) (cA : Nat → ClassId) (tt : List kT) (Ty : Nat → Nat → Prop) (env : List Int) (ren : List Nat) (H : Heap) (q : kF) : Prop :=
  ∃ (a t : Nat) (T : kT) (V : Nat → Value) (z : Nat), ren[q.1]? = some a ∧ Ty a t ∧ tt[t]? = some T ∧ kcell D cA T a H V ∧ kev env q.2.1 = some (z : Int) ∧ z < T.2.1 ∧ kvok env ren q.2.2 (V z)
def kfokG (D : va_G) (cA : Nat → ClassId) (tt : List kT) (Ty : Nat → Nat → Prop) (env : List Int) (ren : List Nat) (H : Heap) (q : kF) : Prop :=
  ∃ (a b : Nat) (T Tt : kT) (V Vt : Nat → Value) (f : kL), ren[q.1]? = some a ∧ Ty a 36 ∧ tt[36]? = some T ∧ kcell D cA T a H V ∧ V 4 = .ref b ∧ Ty b 40 ∧ tt[40]? = some Tt ∧ kcell D cA Tt b H Vt ∧ q.2.2 = .inl f ∧ kev env f = some (kwhich V Vt)
def kfok (D : va_G) (cA : Nat → ClassId) (tt : List kT) (Ty : Nat → Nat → Prop) (env : List Int) (ren : List Nat) (H : Heap) (q : kF) : Prop := match kghx q.2.1 with
  | true => kfokG D cA tt Ty env ren H q
  | false => kfokN D cA tt Ty env ren H q
theorem kfok_ext {D : va_G} {cA : Nat → ClassId} {tt : List kT} {Ty : Nat → Nat → Prop} {env e : List Int} {ren u : List Nat} {H : Heap} {q : kF} (h : kfok D cA tt Ty env ren H q) : kfok D cA tt Ty (env ++ e) (ren ++ u) H q := by
  unfold kfok at h ⊢
  cases hg : kghx q.2.1 with
  | false =>
    rw [hg] at h
    obtain ⟨a, t, T, V, z, h1, h2, h3, h4, h5, h6, h7⟩ := h
    exact ⟨a, t, T, V, z, kget_ext h1, h2, h3, h4, kev_ext h5, h6, kvok_ext h7⟩
  | true =>
    rw [hg] at h
    obtain ⟨a, b, T, Tt, V, Vt, f, h1, h2, h3, h4, h5, h6, h7, h8, h9, h10⟩ := h
    exact ⟨a, b, T, Tt, V, Vt, f, kget_ext h1, h2, h3, h4, h5, h6, h7, h8, h9, kev_ext h10⟩
theorem kfok_N {D : va_G} {cA : Nat → ClassId} {tt : List kT} {Ty : Nat → Nat → Prop} {env : List Int} {ren : List Nat} {H : Heap} {q : kF} (h : kfok D cA tt Ty env ren H q) (hg : kghx q.2.1 = false) : kfokN D cA tt Ty env ren H q := by
  unfold kfok at h
  rw [hg] at h
  exact h
/-- a fact of a place within a cell isn't of the index 5000 -/
theorem kfok_mk {D : va_G} {cA : Nat → ClassId} {tt : List kT} {Ty : Nat → Nat → Prop} {env : List Int} {ren : List Nat} {H : Heap} {q : kF} (hTy : kTyp tt Ty) (h : kfokN D cA tt Ty env ren H q) : kfok D cA tt Ty env ren H q := by
  unfold kfok
  cases hg : kghx q.2.1 with
  | false => exact h
  | true =>
    exfalso
    obtain ⟨a, t, T, V, z, h1, h2, h3, h4, h5, h6, h7⟩ := h
    have := kghx_ev hg h5
    have := hTy.2.2.1 t T h3
    omega
/-- what the index 5000 says stays, if what it rests on does -/
theorem kfokG_kept {D : va_G} {cA : Nat → ClassId} {tt : List kT} {Ty : Nat → Nat → Prop} {env : List Int} {ren : List Nat} {H H1 : Heap} {q : kF} (h : kfokG D cA tt Ty env ren H q) (k1 : ∀ a T V, Ty a 36 → tt[36]? = some T → kcell D cA T a H V → ∃ V', kcell D cA T a H1 V' ∧ V' 4 = V 4 ∧ V' 8 = V 8 ∧ V' 9 = V 9 ∧ V' 10 = V 10 ∧ V' 12 = V 12) (k2 : ∀ b T V, Ty b 40 → tt[40]? = some T → kcell D cA T b H V → ∃ V', kcell D cA T b H1 V' ∧ ∀ j, j < 900 → V' j = V j) : kfokG D cA tt Ty env ren H1 q := by
  obtain ⟨a, b, T, Tt, V, Vt, f, h1, h2, h3, h4, h5, h6, h7, h8, h9, h10⟩ := h
  obtain ⟨V', g1, g4, g8, g9, g10, g12⟩ := k1 a T V h2 h3 h4
  obtain ⟨Vt', w1, w2⟩ := k2 b Tt Vt h6 h7 h8
  exact ⟨a, b, T, Tt, V', Vt', f, h1, h2, h3, g1, g4.trans h5, h6, h7, w1, h9, by rw [kwhich_congr g12 g10 g9 g8 w2]; exact h10⟩
/-! STATES: intervals, types of references, locals, stack, facts, constraints -/
abbrev kS : Type := kQ × List Nat × List (Nat × kV) × List kV × List kF × List kL
def kRt (Ty : Nat → Nat → Prop) (ren : List Nat) (rt : List Nat) : Prop := ren.length = rt.length ∧ ∀ (k t a : Nat), rt[k]? = some t → ren[k]? = some a → Ty a t
def kLoc (env : List Int) (ren : List Nat) : List (Nat × kV) → List (Nat × Value) → Prop
  | [], [] => True
  | a :: l, b :: m => a.1 = b.1 ∧ kvok env ren a.2 b.2 ∧ kLoc env ren l m
  | _, _ => False
def kStk (env : List Int) (ren : List Nat) : List kV → List Value → Prop
  | [], [] => True
  | a :: l, b :: m => kvok env ren a b ∧ kStk env ren l m
  | _, _ => False
theorem kLoc_ext {env e : List Int} {ren u : List Nat} : ∀ {l : List (Nat × kV)} {m : List (Nat × Value)}, kLoc env ren l m → kLoc (env ++ e) (ren ++ u) l m
  | [], [], _ => trivial
  | a :: l, b :: m, h => ⟨h.1, kvok_ext h.2.1, kLoc_ext h.2.2⟩
  | [], _ :: _, h => h.elim
  | _ :: _, [], h => h.elim
theorem kStk_ext {env e : List Int} {ren u : List Nat} : ∀ {l : List kV} {m : List Value}, kStk env ren l m → kStk (env ++ e) (ren ++ u) l m
  | [], [], _ => trivial
  | a :: l, b :: m, h => ⟨kvok_ext h.1, kStk_ext h.2⟩
  | [], _ :: _, h => h.elim
  | _ :: _, [], h => h.elim
def kst (D : va_G) (cA : Nat → ClassId) (tt : List kT) (Ty : Nat → Nat → Prop) (env : List Int) (ren : List Nat) (S : kS) (H : Heap) (lv : List (Nat × Value)) (st : List Value) : Prop :=
  kI env S.1 ∧ kC env S.2.2.2.2.2 ∧ kRt Ty ren S.2.1 ∧ kLoc env ren S.2.2.1 lv ∧ kStk env ren S.2.2.2.1 st ∧ ∀ q ∈ S.2.2.2.2.1, kfok D cA tt Ty env ren H q
theorem kRt_at {Ty : Nat → Nat → Prop} {ren rt : List Nat} {k t : Nat} (h : kRt Ty ren rt) (hk : rt[k]? = some t) : ∃ a, ren[k]? = some a ∧ Ty a t := by
  have := (List.getElem?_eq_some_iff.mp hk).1
  rw [← h.1] at this
  have e := List.getElem?_eq_getElem this
  exact ⟨_, e, h.2 k t _ hk e⟩
theorem kRt_push {Ty : Nat → Nat → Prop} {ren rt : List Nat} {t a : Nat} (h : kRt Ty ren rt) (ha : Ty a t) : kRt Ty (ren ++ [a]) (rt ++ [t]) := by
  refine ⟨by simp [h.1], fun k r w hk hw => ?_⟩
  by_cases hlt : k < rt.length
  · rw [List.getElem?_append_left hlt] at hk
    rw [List.getElem?_append_left (by rw [h.1]; exact hlt)] at hw
    exact h.2 k r w hk hw
  · have hk' := (List.getElem?_eq_some_iff.mp hk).1
    have e : k = rt.length := by simp at hk'; omega
    subst e
    have e1 : r = t := by simpa using hk.symm
    have e2 : w = a := by rw [← h.1] at hw; simpa using hw.symm
    subst e1; subst e2
    exact ha
section KST
variable {D : va_G} {cA : Nat → ClassId} {tt : List kT} {Ty : Nat → Nat → Prop} {env : List Int} {ren : List Nat} {S : kS} {H : Heap} {lv : List (Nat × Value)} {st : List Value}
/-- a symbol more -/
def kpush (S : kS) (q : Int × Int) : kS := (S.1 ++ [q], S.2)
theorem kpush_ok {q : Int × Int} {z : Int} (h : kst D cA tt Ty env ren S H lv st) (h1 : q.1 ≤ z) (h2 : z ≤ q.2) : kst D cA tt Ty (env ++ [z]) (ren ++ []) (kpush S q) H lv st ∧ kev (env ++ [z]) (ksym S.1.length) = some z := by
  obtain ⟨a, b, c, d, e, f⟩ := h
  refine ⟨⟨kI_push a h1 h2, kC_ext b, by rw [List.append_nil]; exact c, kLoc_ext d, kStk_ext e, fun q hq => kfok_ext (f q hq)⟩, ksym_ev (kI_at a)⟩
def kpushR (S : kS) (t : Nat) : kS := (S.1, S.2.1 ++ [t], S.2.2)
theorem kpushR_ok {t a : Nat} (h : kst D cA tt Ty env ren S H lv st) (ha : Ty a t) : kst D cA tt Ty (env ++ []) (ren ++ [a]) (kpushR S t) H lv st ∧ (ren ++ [a])[S.2.1.length]? = some a := by
  obtain ⟨a1, b, c, d, e, f⟩ := h
  refine ⟨⟨by rw [List.append_nil]; exact a1, kC_ext b, kRt_push c ha, kLoc_ext d, kStk_ext e, fun q hq => kfok_ext (f q hq)⟩, ?_⟩
  rw [← c.1]; simp
/-- f ≥ 0 taken up -/
def kasmS (S : kS) (f : kL) : Option kS := match kasm S.1 S.2.2.2.2.2 f with
  | some r => some (r.1, S.2.1, S.2.2.1, S.2.2.2.1, S.2.2.2.2.1, r.2)
  | none => none
theorem kasmS_ok {f : kL} {x : Int} (h : kst D cA tt Ty env ren S H lv st) (hf : kev env f = some x) (hx : 0 ≤ x) : ∃ S', kasmS S f = some S' ∧ kst D cA tt Ty env ren S' H lv st := by
  obtain ⟨a, b, c, d, e, g⟩ := h
  obtain ⟨r, h1, h2, h3⟩ := kasm_ok a b hf hx
  refine ⟨(r.1, S.2.1, S.2.2.1, S.2.2.2.1, S.2.2.2.2.1, r.2), ?_, h2, h3, c, d, e, g⟩
  unfold kasmS
  rw [h1]
def kgeS (S : kS) (f : kL) : Bool := kge S.1 S.2.2.2.2.2 f
theorem kgeS_ok {f : kL} {x : Int} (h : kst D cA tt Ty env ren S H lv st) (hf : kev env f = some x) (hp : kgeS S f = true) : 0 ≤ x := kge_ok h.1 h.2.1 hf hp
/-- lo ≤ f ≤ hi -/
def kbt (S : kS) (f : kL) (lo hi : Int) : Bool := match kgeS S (kofs f (-lo)) with
  | true => kgeS S (ksub (kcst hi) f)
  | false => false
theorem kbt_ok {f : kL} {x lo hi : Int} (h : kst D cA tt Ty env ren S H lv st) (hf : kev env f = some x) (hp : kbt S f lo hi = true) : lo ≤ x ∧ x ≤ hi := by
  unfold kbt at hp
  cases h1 : kgeS S (kofs f (-lo)) with
  | false => rw [h1] at hp; cases hp
  | true =>
    rw [h1] at hp
    have a := kgeS_ok h (kofs_ev hf) h1
    have b := kgeS_ok h (ksub_ev kcst_ev hf) hp
    omega
/-- the value is as the specification says -/
def kfit (S : kS) (v : kV) (p : kP) : Bool := match v, p with
  | .inl f, .inl q => q.any (fun r => kbt S f r.1 r.2)
  | .inr (.inl f), .inr (.inl q) => q.any (fun r => kbt S f r.1 r.2)
  | .inr (.inr (.inl k)), .inr (.inr t) => match S.2.1[k]? with
    | some t' => Nat.beq t' t
    | none => false
  | _, _ => false
theorem kfit_ok {v : kV} {p : kP} {x : Value} (h : kst D cA tt Ty env ren S H lv st) (hv : kvok env ren v x) (hp : kfit S v p = true) : kpok Ty p x := by
  match v, p, hv, hp with
  | .inl f, .inl q, ⟨n, e, hn⟩, hp =>
    obtain ⟨r, hr, hb⟩ := List.any_eq_true.mp hp
    exact ⟨n, e, r, hr, kbt_ok h hn hb⟩
  | .inr (.inl f), .inr (.inl q), ⟨n, e, hn⟩, hp =>
    obtain ⟨r, hr, hb⟩ := List.any_eq_true.mp hp
    exact ⟨n, e, r, hr, kbt_ok h hn hb⟩
  | .inr (.inr (.inl k)), .inr (.inr t), ⟨q, e, hq⟩, hp =>
    have hp : (match S.2.1[k]? with
      | some t' => Nat.beq t' t
      | none => false) = true := hp
    cases h1 : S.2.1[k]? with
    | none => rw [h1] at hp; cases hp
    | some t' =>
      rw [h1] at hp
      have e2 := Nat.beq_eq.mp hp
      subst e2
      exact ⟨q, e, h.2.2.1.2 k t' q h1 hq⟩
  | .inl _, .inr (.inl _), _, hp => cases hp
  | .inl _, .inr (.inr _), _, hp => cases hp
  | .inr (.inl _), .inl _, _, hp => cases hp
  | .inr (.inl _), .inr (.inr _), _, hp => cases hp
  | .inr (.inr (.inl _)), .inl _, _, hp => cases hp
  | .inr (.inr (.inl _)), .inr (.inl _), _, hp => cases hp
  | .inr (.inr (.inr _)), .inl _, _, hp => cases hp
  | .inr (.inr (.inr _)), .inr (.inl _), _, hp => cases hp
  | .inr (.inr (.inr _)), .inr (.inr _), _, hp => cases hp
/-- the fact of a place -/
def kfind0 (fa : List kF) (r : Nat) (x : kL) : Option kV := match fa with
  | [] => none
  | q :: t => match Nat.beq q.1 r with
    | true => match kLeq q.2.1 x with
      | true => some q.2.2
      | false => kfind0 t r x
    | false => kfind0 t r x
def kfind (fa : List kF) (r : Nat) (x : kL) : Option kV := match kghx x with
  | true => none
  | false => kfind0 fa r x
theorem kfind0_mem : ∀ {fa : List kF} {r : Nat} {x : kL} {v : kV}, kfind0 fa r x = some v → (r, x, v) ∈ fa
  | [], r, x, v, h => by cases h
  | q :: t, r, x, v, h => by
    unfold kfind0 at h
    cases h1 : Nat.beq q.1 r with
    | false => rw [h1] at h; exact List.mem_cons_of_mem _ (kfind0_mem h)
    | true =>
      rw [h1] at h
      cases h2 : kLeq q.2.1 x with
      | false => rw [h2] at h; exact List.mem_cons_of_mem _ (kfind0_mem h)
      | true =>
        rw [h2] at h
        have e1 := Nat.beq_eq.mp h1
        have e2 := kLeq_eq h2
        have e3 : q.2.2 = v := Option.some.inj h
        subst e1; subst e2; subst e3
        exact List.mem_cons_self
theorem kfind_ok {r : Nat} {x : kL} {v : kV} (h : kst D cA tt Ty env ren S H lv st) (hf : kfind S.2.2.2.2.1 r x = some v) : kfokN D cA tt Ty env ren H (r, x, v) := by
  unfold kfind at hf
  split at hf
  · cases hf
  · rename_i hg
    exact kfok_N (h.2.2.2.2.2 _ (kfind0_mem hf)) hg
/-- x is base + stride * P with P ≥ 0: P -/
def krunP (S : kS) (b s : Nat) (x : kL) : Option kL := match kdv (Int.ofNat s) (kofs x (-(Int.ofNat b))) with
  | some P => match kgeS S P with
    | true => some P
    | false => none
  | none => none
theorem krunP_ok {b s : Nat} {x P : kL} {z : Nat} (h : kst D cA tt Ty env ren S H lv st) (hx : kev env x = some (z : Int)) (hp : krunP S b s x = some P) : ∃ w : Nat, kev env P = some (w : Int) ∧ z = b + s * w := by
  unfold krunP at hp
  cases h1 : kdv (Int.ofNat s) (kofs x (-(Int.ofNat b))) with
  | none => rw [h1] at hp; (try dsimp only at hp); cases hp
  | some P' =>
    rw [h1] at hp
    try dsimp only at hp
    cases h2 : kgeS S P' with
    | false => rw [h2] at hp; (try dsimp only at hp); cases hp
    | true =>
      rw [h2] at hp
      try dsimp only at hp
      obtain rfl := Option.some.inj hp
      obtain ⟨w, h3, h4⟩ := kdv_ok h1 (kofs_ev hx)
      have h5 := kgeS_ok h h3 h2
      refine ⟨w.toNat, by rw [Int.toNat_of_nonneg h5]; exact h3, ?_⟩
      have h4 : (z : Int) + -(b : Int) = (s : Int) * w := h4
      have h6 : ((w.toNat : Nat) : Int) = w := Int.toNat_of_nonneg h5
      rw [← h6, ← Int.natCast_mul] at h4
      omega
def kspR (S : kS) (x : kL) : List kRun → Option kP
  | [] => none
  | r :: t => match krunP S r.1 r.2.1 x with
    | some P => match kgeS S (ksub (kcst (Int.ofNat r.2.2.1 - 1)) P) with
      | true => some r.2.2.2
      | false => kspR S x t
    | none => kspR S x t
theorem kspR_ok {T : kT} {V : Nat → Value} {x : kL} {z : Nat} (h : kst D cA tt Ty env ren S H lv st) (hx : kev env x = some (z : Int)) : ∀ {l : List kRun} {p : kP}, (∀ r ∈ l, ∀ P, P < r.2.2.1 → kpok Ty r.2.2.2 (V (r.1 + r.2.1 * P))) → kspR S x l = some p → kpok Ty p (V z)
  | [], p, hv, hp => by cases hp
  | r :: l, p, hv, hp => by
    have ih := fun hp => kspR_ok (T := T) (l := l) (p := p) h hx (fun r hr => hv r (List.mem_cons_of_mem _ hr)) hp
    unfold kspR at hp
    cases h1 : krunP S r.1 r.2.1 x with
    | none => rw [h1] at hp; (try dsimp only at hp); exact ih hp
    | some P =>
      rw [h1] at hp
      try dsimp only at hp
      cases h2 : kgeS S (ksub (kcst (Int.ofNat r.2.2.1 - 1)) P) with
      | false => rw [h2] at hp; (try dsimp only at hp); exact ih hp
      | true =>
        rw [h2] at hp
        try dsimp only at hp
        obtain rfl := Option.some.inj hp
        obtain ⟨w, h3, h4⟩ := krunP_ok h hx h1
        have h5 := kgeS_ok h (ksub_ev kcst_ev h3) h2
        have h5 : 0 ≤ ((r.2.2.1 : Int) - 1) - w := h5
        rw [h4]
        exact hv r List.mem_cons_self w (by omega)
def kspS (S : kS) (r0 : Nat) (x : kL) : List kSelf → Option kP
  | [] => none
  | r :: t => match kfind S.2.2.2.2.1 r0 (kcst (Int.ofNat r.2.2.1)) with
    | some (.inl n) => match krunP S r.1 r.2.1 x with
      | some P => match kgeS S (kofs (ksub n P) (-1)) with
        | true => match kgeS S (ksub (kcst (Int.ofNat r.2.2.2.1 - 1)) P) with
          | true => some r.2.2.2.2
          | false => kspS S r0 x t
        | false => kspS S r0 x t
      | none => kspS S r0 x t
    | _ => kspS S r0 x t
theorem kspS_ok {t0 : Nat} {T : kT} {V : Nat → Value} {x : kL} {z r0 a : Nat} (hTy : kTyp tt Ty) (h : kst D cA tt Ty env ren S H lv st) (ha : ren[r0]? = some a) (ht : Ty a t0) (hT : tt[t0]? = some T) (hcl : kcell D cA T a H V) (hx : kev env x = some (z : Int)) :
    ∀ {l : List kSelf} {p : kP}, (∀ r ∈ l, ∀ (n : Int32) (P : Nat), V r.2.2.1 = .int n → P < r.2.2.2.1 → (P : Int) < n.toInt → kpok Ty r.2.2.2.2 (V (r.1 + r.2.1 * P))) → kspS S r0 x l = some p → kpok Ty p (V z)
  | [], p, hv, hp => by cases hp
  | r :: l, p, hv, hp => by
    have ih := fun hp => kspS_ok (l := l) (p := p) hTy h ha ht hT hcl hx (fun r hr => hv r (List.mem_cons_of_mem _ hr)) hp
    unfold kspS at hp
    cases h1 : kfind S.2.2.2.2.1 r0 (kcst (Int.ofNat r.2.2.1)) with
    | none => rw [h1] at hp; (try dsimp only at hp); exact ih hp
    | some v =>
      cases v with
      | inr v => rw [h1] at hp; (try dsimp only at hp); exact ih hp
      | inl n =>
        rw [h1] at hp
        try dsimp only at hp
        cases h2 : krunP S r.1 r.2.1 x with
        | none => rw [h2] at hp; (try dsimp only at hp); exact ih hp
        | some P =>
          rw [h2] at hp
          try dsimp only at hp
          cases h3 : kgeS S (kofs (ksub n P) (-1)) with
          | false => rw [h3] at hp; (try dsimp only at hp); exact ih hp
          | true =>
            rw [h3] at hp
            try dsimp only at hp
            cases h4 : kgeS S (ksub (kcst (Int.ofNat r.2.2.2.1 - 1)) P) with
            | false => rw [h4] at hp; (try dsimp only at hp); exact ih hp
            | true =>
              rw [h4] at hp
              try dsimp only at hp
              obtain rfl := Option.some.inj hp
              obtain ⟨w, e1, e2⟩ := krunP_ok h hx h2
              obtain ⟨a', t', T', V', z', f1, f2, f3, f4, f5, f6, n', f7, f8⟩ := kfind_ok h h1
              have ea : a' = a := Option.some.inj (f1.symm.trans ha)
              subst ea
              have et := kTyp_eq hTy f2 ht f3 hT
              subst et
              have eT : T' = T := Option.some.inj (f3.symm.trans hT)
              subst eT
              have ez : (Int.ofNat r.2.2.1) = (z' : Int) := by
                have := kcst_ev (env := env) (n := Int.ofNat r.2.2.1)
                exact Option.some.inj (this.symm.trans f5)
              have ez : r.2.2.1 = z' := Int.ofNat.inj ez
              subst ez
              have eV := kcell_uniq f4 hcl f6
              have g1 := kgeS_ok h (kofs_ev (ksub_ev f8 e1)) h3
              have g2 := kgeS_ok h (ksub_ev kcst_ev e1) h4
              have g2 : 0 ≤ ((r.2.2.2.1 : Int) - 1) - w := g2
              rw [e2]
              exact hv r List.mem_cons_self n' w (by rw [← eV]; exact f7) (by omega) (by omega)
end KST
