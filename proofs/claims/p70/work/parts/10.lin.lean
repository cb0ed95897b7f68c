/-! LINEAR FORMS over symbols: a list of (symbol, coefficient) and a constant -/
abbrev kL : Type := List (Nat × Int) × Int
abbrev kQ : Type := List (Int × Int)
/-- 0 ≤ a -/
def knn (a : Int) : Bool := match a with
  | .ofNat _ => true
  | .negSucc _ => false
def kz (a : Int) : Bool := match a with
  | .ofNat n => Nat.beq n 0
  | .negSucc _ => false
theorem knn_iff {a : Int} : knn a = true ↔ 0 ≤ a := by
  cases a with
  | ofNat n => simp [knn]
  | negSucc n => simp [knn]
theorem kz_iff {a : Int} : kz a = true ↔ a = 0 := by
  cases a with
  | ofNat n =>
    show Nat.beq n 0 = true ↔ (Int.ofNat n) = 0
    rw [Nat.beq_eq]
    constructor
    · intro h; subst h; rfl
    · intro h
      have : (n : Int) = 0 := h
      omega
  | negSucc n => simp [kz]
def kevT (env : List Int) : List (Nat × Int) → Option Int
  | [] => some 0
  | q :: t => match env[q.1]?, kevT env t with
    | some z, some r => some (q.2 * z + r)
    | _, _ => none
def kev (env : List Int) (f : kL) : Option Int := match kevT env f.1 with
  | some r => some (r + f.2)
  | none => none
theorem kevT_cons {env : List Int} {q : Nat × Int} {t : List (Nat × Int)} {x : Int} (h : kevT env (q :: t) = some x) : ∃ z r, env[q.1]? = some z ∧ kevT env t = some r ∧ x = q.2 * z + r := by
  unfold kevT at h
  cases h1 : env[q.1]? with
  | none => rw [h1] at h; simp at h
  | some z =>
    cases h2 : kevT env t with
    | none => rw [h1, h2] at h; simp at h
    | some r => rw [h1, h2] at h; exact ⟨z, r, rfl, rfl, (Option.some.inj h).symm⟩
theorem kevT_mk {env : List Int} {q : Nat × Int} {t : List (Nat × Int)} {z r : Int} (h1 : env[q.1]? = some z) (h2 : kevT env t = some r) : kevT env (q :: t) = some (q.2 * z + r) := by
  show (match env[q.1]?, kevT env t with
    | some z, some r => some (q.2 * z + r)
    | _, _ => none) = _
  rw [h1, h2]
theorem kev_of {env : List Int} {f : kL} {x : Int} (h : kev env f = some x) : ∃ r, kevT env f.1 = some r ∧ x = r + f.2 := by
  unfold kev at h
  cases h1 : kevT env f.1 with
  | none => rw [h1] at h; simp at h
  | some r => rw [h1] at h; exact ⟨r, rfl, (Option.some.inj h).symm⟩
theorem kev_mk {env : List Int} {f : kL} {r : Int} (h : kevT env f.1 = some r) : kev env f = some (r + f.2) := by
  unfold kev
  rw [h]
theorem kget_ext {α : Type} {l t : List α} {k : Nat} {z : α} (h : l[k]? = some z) : (l ++ t)[k]? = some z := by
  rw [List.getElem?_append_left (List.getElem?_eq_some_iff.mp h).1]; exact h
theorem kevT_ext {env t : List Int} : ∀ {l : List (Nat × Int)} {x : Int}, kevT env l = some x → kevT (env ++ t) l = some x
  | [], x, h => h
  | q :: l, x, h => by
    obtain ⟨z, r, h1, h2, rfl⟩ := kevT_cons h
    exact kevT_mk (kget_ext h1) (kevT_ext h2)
theorem kev_ext {env t : List Int} {f : kL} {x : Int} (h : kev env f = some x) : kev (env ++ t) f = some x := by
  obtain ⟨r, h1, rfl⟩ := kev_of h
  exact kev_mk (kevT_ext h1)
def kins (k : Nat) (c : Int) : List (Nat × Int) → List (Nat × Int)
  | [] => [(k, c)]
  | q :: t => match Nat.beq k q.1 with
    | true => match kz (c + q.2) with
      | true => t
      | false => (k, c + q.2) :: t
    | false => match Nat.ble k q.1 with
      | true => (k, c) :: q :: t
      | false => q :: kins k c t
theorem kins_ev {env : List Int} {k : Nat} {c z : Int} (hk : env[k]? = some z) : ∀ {t : List (Nat × Int)} {r : Int}, kevT env t = some r → kevT env (kins k c t) = some (c * z + r)
  | [], r, h => by
    have e : (0 : Int) = r := Option.some.inj h
    subst e
    exact kevT_mk (q := (k, c)) hk rfl
  | q :: t, r, h => by
    obtain ⟨z', r', h1, h2, rfl⟩ := kevT_cons h
    unfold kins
    cases hb : Nat.beq k q.1 with
    | true =>
      have e : k = q.1 := Nat.beq_eq.mp hb
      rw [e, h1] at hk
      obtain rfl := Option.some.inj hk
      cases hz : kz (c + q.2) with
      | true =>
        have e2 := kz_iff.mp hz
        show kevT env t = _
        rw [h2]
        congr 1
        have : c * z' + (q.2 * z' + r') = (c + q.2) * z' + r' := by rw [Int.add_mul]; omega
        rw [this, e2]
        simp
      | false =>
        show kevT env ((k, c + q.2) :: t) = _
        rw [kevT_mk (q := (k, c + q.2)) (by rw [e]; exact h1) h2]
        congr 1
        show (c + q.2) * z' + r' = _
        rw [Int.add_mul]; omega
    | false =>
      cases hl : Nat.ble k q.1 with
      | true => exact kevT_mk (q := (k, c)) hk h
      | false =>
        show kevT env (q :: kins k c t) = _
        rw [kevT_mk h1 (kins_ev hk h2)]
        congr 1
        omega
def kaddT : List (Nat × Int) → List (Nat × Int) → List (Nat × Int)
  | [], b => b
  | q :: t, b => kins q.1 q.2 (kaddT t b)
theorem kaddT_ev {env : List Int} : ∀ {a b : List (Nat × Int)} {x y : Int}, kevT env a = some x → kevT env b = some y → kevT env (kaddT a b) = some (x + y)
  | [], b, x, y, h, hb => by
    have e : (0 : Int) = x := Option.some.inj h
    subst e
    rw [Int.zero_add]; exact hb
  | q :: t, b, x, y, h, hb => by
    obtain ⟨z, r, h1, h2, rfl⟩ := kevT_cons h
    show kevT env (kins q.1 q.2 (kaddT t b)) = _
    rw [kins_ev h1 (kaddT_ev h2 hb)]
    congr 1
    omega
def kadd (f g : kL) : kL := (kaddT f.1 g.1, f.2 + g.2)
theorem kadd_ev {env : List Int} {f g : kL} {x y : Int} (h : kev env f = some x) (h' : kev env g = some y) : kev env (kadd f g) = some (x + y) := by
  obtain ⟨r, h1, rfl⟩ := kev_of h
  obtain ⟨r', h2, rfl⟩ := kev_of h'
  rw [show kev env (kadd f g) = some ((r + r') + (f.2 + g.2)) from kev_mk (f := kadd f g) (kaddT_ev h1 h2)]
  congr 1
  omega
def kscT (c : Int) : List (Nat × Int) → List (Nat × Int)
  | [] => []
  | q :: t => (q.1, c * q.2) :: kscT c t
theorem kscT_ev {env : List Int} {c : Int} : ∀ {a : List (Nat × Int)} {x : Int}, kevT env a = some x → kevT env (kscT c a) = some (c * x)
  | [], x, h => by
    have e : (0 : Int) = x := Option.some.inj h
    subst e
    rw [Int.mul_zero]; rfl
  | q :: t, x, h => by
    obtain ⟨z, r, h1, h2, rfl⟩ := kevT_cons h
    show kevT env ((q.1, c * q.2) :: kscT c t) = _
    rw [kevT_mk (q := (q.1, c * q.2)) h1 (kscT_ev h2)]
    congr 1
    show c * q.2 * z + c * r = _
    rw [Int.mul_add, Int.mul_assoc]
def ksc (c : Int) (f : kL) : kL := match kz c with
  | true => ([], 0)
  | false => (kscT c f.1, c * f.2)
theorem ksc_ev {env : List Int} {c : Int} {f : kL} {x : Int} (h : kev env f = some x) : kev env (ksc c f) = some (c * x) := by
  obtain ⟨r, h1, rfl⟩ := kev_of h
  unfold ksc
  cases hz : kz c with
  | true =>
    show kev env ([], 0) = _
    rw [kz_iff.mp hz, Int.zero_mul]; rfl
  | false =>
    show kev env (kscT c f.1, c * f.2) = _
    rw [kev_mk (f := (kscT c f.1, c * f.2)) (kscT_ev h1)]
    congr 1
    show c * r + c * f.2 = _
    rw [Int.mul_add]
def kneg (f : kL) : kL := (kscT (-1) f.1, -f.2)
theorem kneg_ev {env : List Int} {f : kL} {x : Int} (h : kev env f = some x) : kev env (kneg f) = some (-x) := by
  obtain ⟨r, h1, rfl⟩ := kev_of h
  rw [show kev env (kneg f) = some (-1 * r + -f.2) from kev_mk (f := kneg f) (kscT_ev h1)]
  congr 1
  omega
def ksub (f g : kL) : kL := kadd f (kneg g)
theorem ksub_ev {env : List Int} {f g : kL} {x y : Int} (h : kev env f = some x) (h' : kev env g = some y) : kev env (ksub f g) = some (x - y) := kadd_ev h (kneg_ev h')
def kofs (f : kL) (n : Int) : kL := (f.1, f.2 + n)
theorem kofs_ev {env : List Int} {f : kL} {x n : Int} (h : kev env f = some x) : kev env (kofs f n) = some (x + n) := by
  obtain ⟨r, h1, rfl⟩ := kev_of h
  rw [show kev env (kofs f n) = some (r + (f.2 + n)) from kev_mk (f := kofs f n) h1]
  congr 1
  omega
def kcst (n : Int) : kL := ([], n)
theorem kcst_ev {env : List Int} {n : Int} : kev env (kcst n) = some n := by
  show some (0 + n) = some n
  rw [Int.zero_add]
def ksym (k : Nat) : kL := ([(k, 1)], 0)
theorem ksym_ev {env : List Int} {k : Nat} {z : Int} (h : env[k]? = some z) : kev env (ksym k) = some z := by
  rw [show kev env (ksym k) = some (1 * z + 0 + 0) from kev_mk (f := ksym k) (kevT_mk (q := (k, 1)) h rfl)]
  congr 1
  omega
/-! intervals of the symbols -/
def kI (env : List Int) (iv : kQ) : Prop := env.length = iv.length ∧ ∀ (k : Nat) (q : Int × Int) (z : Int), iv[k]? = some q → env[k]? = some z → q.1 ≤ z ∧ z ≤ q.2
def klbT (iv : kQ) : List (Nat × Int) → Option Int
  | [] => some 0
  | q :: t => match iv[q.1]?, klbT iv t with
    | some r, some x => some (match q.2 with
      | .ofNat n => Int.ofNat n * r.1 + x
      | .negSucc n => Int.negSucc n * r.2 + x)
    | _, _ => none
theorem klbT_ok {env : List Int} {iv : kQ} (hI : kI env iv) : ∀ {l : List (Nat × Int)} {x b : Int}, kevT env l = some x → klbT iv l = some b → b ≤ x
  | [], x, b, h, hb => by
    have e : (0 : Int) = x := Option.some.inj h
    have e2 : (0 : Int) = b := Option.some.inj hb
    omega
  | q :: t, x, b, h, hb => by
    obtain ⟨z, r, h1, h2, rfl⟩ := kevT_cons h
    unfold klbT at hb
    cases h3 : iv[q.1]? with
    | none => rw [h3] at hb; simp at hb
    | some w =>
      cases h4 : klbT iv t with
      | none => rw [h3, h4] at hb; simp at hb
      | some y =>
        rw [h3, h4] at hb
        have hy := klbT_ok hI h2 h4
        obtain ⟨b1, b2⟩ := hI.2 q.1 w z h3 h1
        have e := Option.some.inj hb
        clear hb
        obtain ⟨q1, q2⟩ := q
        cases q2 with
        | ofNat n =>
          have e : Int.ofNat n * w.1 + y = b := e
          have : Int.ofNat n * w.1 ≤ Int.ofNat n * z := Int.mul_le_mul_of_nonneg_left b1 (Int.natCast_nonneg n)
          show b ≤ Int.ofNat n * z + r
          omega
        | negSucc n =>
          have e : Int.negSucc n * w.2 + y = b := e
          have : Int.negSucc n * w.2 ≤ Int.negSucc n * z := Int.mul_le_mul_of_nonpos_left (Int.le_of_lt (Int.negSucc_lt_zero n)) b2
          show b ≤ Int.negSucc n * z + r
          omega
def klb (iv : kQ) (f : kL) : Option Int := match klbT iv f.1 with
  | some x => some (x + f.2)
  | none => none
theorem klb_ok {env : List Int} {iv : kQ} {f : kL} {x b : Int} (hI : kI env iv) (h : kev env f = some x) (hb : klb iv f = some b) : b ≤ x := by
  obtain ⟨r, h1, rfl⟩ := kev_of h
  unfold klb at hb
  cases h2 : klbT iv f.1 with
  | none => rw [h2] at hb; simp at hb
  | some y =>
    rw [h2] at hb
    have e : y + f.2 = b := Option.some.inj hb
    have := klbT_ok hI h1 h2
    omega
def kub (iv : kQ) (f : kL) : Option Int := match klb iv (kneg f) with
  | some x => some (-x)
  | none => none
theorem kub_ok {env : List Int} {iv : kQ} {f : kL} {x b : Int} (hI : kI env iv) (h : kev env f = some x) (hb : kub iv f = some b) : x ≤ b := by
  unfold kub at hb
  cases h2 : klb iv (kneg f) with
  | none => rw [h2] at hb; simp at hb
  | some y =>
    rw [h2] at hb
    have e : -y = b := Option.some.inj hb
    have := klb_ok hI (kneg_ev h) h2
    omega
/-- f is at least 0, by the intervals -/
def kpos (iv : kQ) (f : kL) : Bool := match klb iv f with
  | some b => knn b
  | none => false
theorem kpos_ok {env : List Int} {iv : kQ} {f : kL} {x : Int} (hI : kI env iv) (h : kev env f = some x) (hp : kpos iv f = true) : 0 ≤ x := by
  unfold kpos at hp
  cases h2 : klb iv f with
  | none => rw [h2] at hp; cases hp
  | some b =>
    rw [h2] at hp
    have := klb_ok hI h h2
    have := knn_iff.mp hp
    omega
/-- the constraints: each at least 0 -/
def kC (env : List Int) (cs : List kL) : Prop := ∀ g ∈ cs, ∃ z, kev env g = some z ∧ 0 ≤ z
/-- f is at least 0, by the intervals and at most two constraints -/
def kge (iv : kQ) (cs : List kL) (f : kL) : Bool := match kpos iv f with
  | true => true
  | false => match cs.any (fun g => kpos iv (ksub f g)) with
    | true => true
    | false => cs.any (fun g => cs.any (fun h => kpos iv (ksub (ksub f g) h)))
theorem kge_ok {env : List Int} {iv : kQ} {cs : List kL} {f : kL} {x : Int} (hI : kI env iv) (hC : kC env cs) (h : kev env f = some x) (hp : kge iv cs f = true) : 0 ≤ x := by
  unfold kge at hp
  cases h1 : kpos iv f with
  | true => exact kpos_ok hI h h1
  | false =>
    rw [h1] at hp
    cases h2 : cs.any (fun g => kpos iv (ksub f g)) with
    | true =>
      obtain ⟨g, hg, hg2⟩ := List.any_eq_true.mp h2
      obtain ⟨z, e1, e2⟩ := hC g hg
      have := kpos_ok hI (ksub_ev h e1) hg2
      omega
    | false =>
      rw [h2] at hp
      obtain ⟨g, hg, hg2⟩ := List.any_eq_true.mp hp
      obtain ⟨g', hg', hg3⟩ := List.any_eq_true.mp hg2
      obtain ⟨z, e1, e2⟩ := hC g hg
      obtain ⟨z', e1', e2'⟩ := hC g' hg'
      have := kpos_ok hI (ksub_ev (ksub_ev h e1) e1') hg3
      omega
theorem kC_ext {env t : List Int} {cs : List kL} (h : kC env cs) : kC (env ++ t) cs := fun g hg => by
  obtain ⟨z, h1, h2⟩ := h g hg
  exact ⟨z, kev_ext h1, h2⟩
/-- a symbol more -/
theorem kI_push {env : List Int} {iv : kQ} {q : Int × Int} {z : Int} (h : kI env iv) (h1 : q.1 ≤ z) (h2 : z ≤ q.2) : kI (env ++ [z]) (iv ++ [q]) := by
  refine ⟨by simp [h.1], fun k r w hk hw => ?_⟩
  by_cases hlt : k < iv.length
  · rw [List.getElem?_append_left hlt] at hk
    rw [List.getElem?_append_left (by rw [h.1]; exact hlt)] at hw
    exact h.2 k r w hk hw
  · have hk' := (List.getElem?_eq_some_iff.mp hk).1
    have e : k = iv.length := by simp at hk'; omega
    subst e
    have e1 : r = q := by simpa using hk.symm
    have e2 : w = z := by rw [← h.1] at hw; simpa using hw.symm
    subst e1; subst e2
    exact ⟨h1, h2⟩
theorem kI_at {env : List Int} {iv : kQ} {z : Int} (h : kI env iv) : (env ++ [z])[iv.length]? = some z := by
  rw [← h.1]; simp
theorem kI_some {env : List Int} {iv : kQ} {k : Nat} {q : Int × Int} (h : kI env iv) (hq : iv[k]? = some q) : ∃ z, env[k]? = some z := by
  have := (List.getElem?_eq_some_iff.mp hq).1
  rw [← h.1] at this
  exact ⟨env[k], List.getElem?_eq_getElem this⟩
/-- a symbol's interval, narrowed by f ≥ 0; none: there is no such value -/
def ktig1 (iv : kQ) (f : kL) (q : Nat × Int) : Option kQ := match iv[q.1]?, kub iv (ksub f ([q], 0)) with
  | some r, some u => match q.2 with
    | .ofNat 0 => some iv
    | .ofNat (n + 1) => match knn (r.1 - (-(u / Int.ofNat (n + 1)))) with
      | true => some iv
      | false => match knn (r.2 - (-(u / Int.ofNat (n + 1)))) with
        | true => some (iv.set q.1 (-(u / Int.ofNat (n + 1)), r.2))
        | false => none
    | .negSucc n => match knn (u / Int.ofNat (n + 1) - r.2) with
      | true => some iv
      | false => match knn (u / Int.ofNat (n + 1) - r.1) with
        | true => some (iv.set q.1 (r.1, u / Int.ofNat (n + 1)))
        | false => none
  | _, _ => some iv
theorem kI_set {env : List Int} {iv : kQ} {k : Nat} {q : Int × Int} (h : kI env iv) (hz : ∀ z, env[k]? = some z → q.1 ≤ z ∧ z ≤ q.2) : kI env (iv.set k q) := by
  refine ⟨by simp [h.1], fun j r w hj hw => ?_⟩
  by_cases e : j = k
  · subst e
    have hl := (List.getElem?_eq_some_iff.mp hj).1
    rw [List.length_set] at hl
    rw [List.getElem?_set_self hl] at hj
    obtain rfl := Option.some.inj hj
    exact hz w hw
  · rw [List.getElem?_set_ne (Ne.symm e)] at hj
    exact h.2 j r w hj hw
theorem ktig1_ok {env : List Int} {iv : kQ} {f : kL} {q : Nat × Int} {x : Int} (hI : kI env iv) (h : kev env f = some x) (hx : 0 ≤ x) : ∃ iv', ktig1 iv f q = some iv' ∧ kI env iv' := by
  unfold ktig1
  cases h1 : iv[q.1]? with
  | none => exact ⟨iv, rfl, hI⟩
  | some r =>
    cases h2 : kub iv (ksub f ([q], 0)) with
    | none => exact ⟨iv, rfl, hI⟩
    | some u =>
      obtain ⟨z, hz⟩ := kI_some hI h1
      have hq : kev env ([q], 0) = some (q.2 * z) := by
        rw [kev_mk (f := ([q], 0)) (kevT_mk hz rfl)]
        congr 1
        show q.2 * z + 0 + 0 = _
        omega
      have hu := kub_ok hI (ksub_ev h hq) h2
      have hrz := hI.2 q.1 r z h1 hz
      obtain ⟨q1, q2⟩ := q
      cases q2 with
      | ofNat n =>
        cases n with
        | zero => exact ⟨iv, rfl, hI⟩
        | succ n =>
          have hd : (0 : Int) < Int.ofNat (n + 1) := Int.natCast_pos.mpr (Nat.succ_pos n)
          have hu : x - Int.ofNat (n + 1) * z ≤ u := hu
          have hk : -z ≤ u / Int.ofNat (n + 1) := by
            rw [Int.le_ediv_iff_mul_le hd, Int.neg_mul, Int.mul_comm]
            omega
          show ∃ iv', (match knn (r.1 - (-(u / Int.ofNat (n + 1)))) with
            | true => some iv
            | false => match knn (r.2 - (-(u / Int.ofNat (n + 1)))) with
              | true => some (iv.set q1 (-(u / Int.ofNat (n + 1)), r.2))
              | false => none) = some iv' ∧ kI env iv'
          cases knn (r.1 - (-(u / Int.ofNat (n + 1)))) with
          | true => exact ⟨iv, rfl, hI⟩
          | false =>
            cases h3 : knn (r.2 - (-(u / Int.ofNat (n + 1)))) with
            | true =>
              refine ⟨_, rfl, kI_set hI fun w hw => ?_⟩
              have hz : env[q1]? = some z := hz
              rw [hz] at hw
              obtain rfl := Option.some.inj hw
              exact ⟨by show -(u / Int.ofNat (n + 1)) ≤ z; omega, hrz.2⟩
            | false =>
              exfalso
              have : ¬ (knn (r.2 - (-(u / Int.ofNat (n + 1)))) = true) := by rw [h3]; decide
              rw [knn_iff] at this
              have := hrz.2
              omega
      | negSucc n =>
        have hd : (0 : Int) < Int.ofNat (n + 1) := Int.natCast_pos.mpr (Nat.succ_pos n)
        have hu : x - Int.negSucc n * z ≤ u := hu
        have hk : z ≤ u / Int.ofNat (n + 1) := by
          rw [Int.le_ediv_iff_mul_le hd, Int.mul_comm]
          have e : Int.negSucc n * z = -(Int.ofNat (n + 1) * z) := by rw [← Int.neg_mul]; rfl
          rw [e] at hu
          omega
        show ∃ iv', (match knn (u / Int.ofNat (n + 1) - r.2) with
          | true => some iv
          | false => match knn (u / Int.ofNat (n + 1) - r.1) with
            | true => some (iv.set q1 (r.1, u / Int.ofNat (n + 1)))
            | false => none) = some iv' ∧ kI env iv'
        cases knn (u / Int.ofNat (n + 1) - r.2) with
        | true => exact ⟨iv, rfl, hI⟩
        | false =>
          cases h3 : knn (u / Int.ofNat (n + 1) - r.1) with
          | true =>
            refine ⟨_, rfl, kI_set hI fun w hw => ?_⟩
            have hz : env[q1]? = some z := hz
            rw [hz] at hw
            obtain rfl := Option.some.inj hw
            exact ⟨hrz.1, hk⟩
          | false =>
            exfalso
            have : ¬ (knn (u / Int.ofNat (n + 1) - r.1) = true) := by rw [h3]; decide
            rw [knn_iff] at this
            have := hrz.1
            omega
def ktig (f : kL) : List (Nat × Int) → kQ → Option kQ
  | [], iv => some iv
  | q :: t, iv => match ktig1 iv f q with
    | some iv' => ktig f t iv'
    | none => none
theorem ktig_ok {env : List Int} {f : kL} {x : Int} (h : kev env f = some x) (hx : 0 ≤ x) : ∀ (l : List (Nat × Int)) {iv : kQ}, kI env iv → ∃ iv', ktig f l iv = some iv' ∧ kI env iv'
  | [], iv, hI => ⟨iv, rfl, hI⟩
  | q :: t, iv, hI => by
    obtain ⟨iv1, h1, h2⟩ := ktig1_ok (q := q) hI h hx
    obtain ⟨iv2, h3, h4⟩ := ktig_ok h hx t h2
    refine ⟨iv2, ?_, h4⟩
    unfold ktig
    rw [h1]
    exact h3
/-- f ≥ 0 taken up: the intervals, the constraints; none: it can't be -/
def kasm (iv : kQ) (cs : List kL) (f : kL) : Option (kQ × List kL) := match f.1 with
  | [] => match knn f.2 with
    | true => some (iv, cs)
    | false => none
  | [_] => match ktig f f.1 iv with
    | some iv' => some (iv', cs)
    | none => none
  | _ => match ktig f f.1 iv with
    | some iv' => some (iv', f :: cs)
    | none => none
theorem kasm_ok {env : List Int} {iv : kQ} {cs : List kL} {f : kL} {x : Int} (hI : kI env iv) (hC : kC env cs) (h : kev env f = some x) (hx : 0 ≤ x) : ∃ r, kasm iv cs f = some r ∧ kI env r.1 ∧ kC env r.2 := by
  obtain ⟨iv', h1, h2⟩ := ktig_ok h hx f.1 hI
  obtain ⟨l, d⟩ := f
  unfold kasm
  cases l with
  | nil =>
    have e : (0 : Int) + d = x := Option.some.inj h
    have : knn d = true := knn_iff.mpr (by omega)
    show ∃ r, (match knn d with
      | true => some (iv, cs)
      | false => none) = some r ∧ _
    rw [this]
    exact ⟨_, rfl, hI, hC⟩
  | cons a t =>
    cases t with
    | nil =>
      show ∃ r, (match ktig ([a], d) [a] iv with
        | some iv' => some (iv', cs)
        | none => none) = some r ∧ _
      rw [show ktig ([a], d) [a] iv = some iv' from h1]
      exact ⟨_, rfl, h2, hC⟩
    | cons b t =>
      show ∃ r, (match ktig (a :: b :: t, d) (a :: b :: t) iv with
        | some iv' => some (iv', (a :: b :: t, d) :: cs)
        | none => none) = some r ∧ _
      rw [show ktig (a :: b :: t, d) (a :: b :: t) iv = some iv' from h1]
      refine ⟨_, rfl, h2, fun g hg => ?_⟩
      rcases List.mem_cons.mp hg with rfl | hg
      · exact ⟨x, h, hx⟩
      · exact hC g hg
