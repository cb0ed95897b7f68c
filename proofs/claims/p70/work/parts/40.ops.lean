/-! ARITHMETIC: an answer is a form, or an interval -/
abbrev kRes : Type := kL ⊕ (Int × Int)
def k32 : Int × Int := (-2147483648, 2147483647)
def k64 : Int × Int := (-9223372036854775808, 9223372036854775807)
def kresok (env : List Int) (a : kRes) (x : Int) : Prop := match a with
  | .inl f => kev env f = some x
  | .inr q => q.1 ≤ x ∧ x ≤ q.2
theorem k32_in (x : Int32) : k32.1 ≤ x.toInt ∧ x.toInt ≤ k32.2 := by
  have h1 := Int32.toInt_lt x
  have h2 := Int32.le_toInt x
  show (-2147483648 : Int) ≤ _ ∧ _ ≤ (2147483647 : Int)
  omega
theorem k64_in (x : Int64) : k64.1 ≤ x.toInt ∧ x.toInt ≤ k64.2 := by
  have h1 := Int64.toInt_lt x
  have h2 := Int64.le_toInt x
  show (-9223372036854775808 : Int) ≤ _ ∧ _ ≤ (9223372036854775807 : Int)
  omega
theorem k32_bm {x : Int} (h1 : k32.1 ≤ x) (h2 : x ≤ k32.2) : x.bmod (2 ^ 32) = x := by
  have h1 : (-2147483648 : Int) ≤ x := h1
  have h2 : x ≤ (2147483647 : Int) := h2
  apply Int.bmod_eq_of_le <;> omega
theorem k64_bm {x : Int} (h1 : k64.1 ≤ x) (h2 : x ≤ k64.2) : x.bmod (2 ^ 64) = x := by
  have h1 : (-9223372036854775808 : Int) ≤ x := h1
  have h2 : x ≤ (9223372036854775807 : Int) := h2
  apply Int.bmod_eq_of_le <;> omega
/-- the form f, if it lies within q -/
def kri (S : kS) (f : kL) (q : Int × Int) : kRes := match klb S.1 f, kub S.1 f with
  | some a, some b => match knn (a - q.1) with
    | true => match knn (q.2 - b) with
      | true => .inl f
      | false => .inr q
    | false => .inr q
  | _, _ => .inr q
theorem kri_ok {env : List Int} {S : kS} {f : kL} {q : Int × Int} {x r : Int} (hI : kI env S.1) (hf : kev env f = some x) (hr : q.1 ≤ x → x ≤ q.2 → r = x) (hq : q.1 ≤ r ∧ r ≤ q.2) : kresok env (kri S f q) r := by
  unfold kri
  cases h1 : klb S.1 f with
  | none => exact hq
  | some a =>
    cases h2 : kub S.1 f with
    | none => exact hq
    | some b =>
      dsimp only
      cases h3 : knn (a - q.1) with
      | false => exact hq
      | true =>
        cases h4 : knn (q.2 - b) with
        | false => exact hq
        | true =>
          have a1 := klb_ok hI hf h1
          have a2 := kub_ok hI hf h2
          have a3 := knn_iff.mp h3
          have a4 := knn_iff.mp h4
          show kev env f = some r
          rw [hr (by omega) (by omega)]
          exact hf
def kitv (S : kS) (f : kL) : Option (Int × Int) := match klb S.1 f, kub S.1 f with
  | some a, some b => some (a, b)
  | _, _ => none
theorem kitv_ok {env : List Int} {S : kS} {f : kL} {q : Int × Int} {x : Int} (hI : kI env S.1) (hf : kev env f = some x) (h : kitv S f = some q) : q.1 ≤ x ∧ x ≤ q.2 := by
  unfold kitv at h
  cases h1 : klb S.1 f with
  | none => rw [h1] at h; simp at h
  | some a =>
    cases h2 : kub S.1 f with
    | none => rw [h1, h2] at h; simp at h
    | some b =>
      rw [h1, h2] at h
      have e : (a, b) = q := Option.some.inj h
      subst e
      exact ⟨klb_ok hI hf h1, kub_ok hI hf h2⟩
def kmin (a b : Int) : Int := match knn (b - a) with
  | true => a
  | false => b
def kmax (a b : Int) : Int := match knn (b - a) with
  | true => b
  | false => a
theorem kmin_eq (a b : Int) : kmin a b = min a b := by
  unfold kmin
  cases h : knn (b - a) with
  | true =>
    have := knn_iff.mp h
    show a = _
    omega
  | false =>
    have : ¬ (knn (b - a) = true) := by rw [h]; decide
    rw [knn_iff] at this
    show b = _
    omega
theorem kmax_eq (a b : Int) : kmax a b = max a b := by
  unfold kmax
  cases h : knn (b - a) with
  | true =>
    have := knn_iff.mp h
    show b = _
    omega
  | false =>
    have : ¬ (knn (b - a) = true) := by rw [h]; decide
    rw [knn_iff] at this
    show a = _
    omega
theorem knn_f {a : Int} (h : knn a = false) : a < 0 := by
  have : ¬ (knn a = true) := by rw [h]; decide
  rw [knn_iff] at this
  omega
/-- a product -/
def kmul (S : kS) (x y : kL) (q : Int × Int) : kRes := match x.1 with
  | [] => kri S (ksc x.2 y) q
  | _ => match y.1 with
    | [] => kri S (ksc y.2 x) q
    | _ => match kitv S x, kitv S y with
      | some a, some b => match knn a.1 with
        | true => match knn b.1 with
          | true => match knn (q.2 - a.2 * b.2) with
            | true => .inr (a.1 * b.1, a.2 * b.2)
            | false => .inr q
          | false => .inr q
        | false => .inr q
      | _, _ => .inr q
theorem kcst_of {env : List Int} {f : kL} {x : Int} (h : f.1 = []) (hf : kev env f = some x) : x = f.2 := by
  obtain ⟨l, d⟩ := f
  have h : l = [] := h
  subst h
  have e : (0 : Int) + d = x := Option.some.inj hf
  show x = d
  omega
theorem kmul_ok {env : List Int} {S : kS} {x y : kL} {q : Int × Int} {a b r : Int} (hI : kI env S.1) (hx : kev env x = some a) (hy : kev env y = some b) (hr : q.1 ≤ a * b → a * b ≤ q.2 → r = a * b) (hq : q.1 ≤ r ∧ r ≤ q.2) (h0 : q.1 ≤ 0) : kresok env (kmul S x y q) r := by
  unfold kmul
  cases h1 : x.1 with
  | nil =>
    have e := kcst_of h1 hx
    subst e
    exact kri_ok hI (ksc_ev hy) hr hq
  | cons c t =>
    dsimp only
    cases h2 : y.1 with
    | nil =>
      have e := kcst_of h2 hy
      subst e
      exact kri_ok hI (ksc_ev hx) (by rw [Int.mul_comm y.2 a]; exact hr) hq
    | cons c' t' =>
      dsimp only
      cases h3 : kitv S x with
      | none => exact hq
      | some u =>
        cases h4 : kitv S y with
        | none => exact hq
        | some v =>
          dsimp only
          cases h5 : knn u.1 with
          | false => exact hq
          | true =>
            cases h6 : knn v.1 with
            | false => exact hq
            | true =>
              dsimp only
              cases h7 : knn (q.2 - u.2 * v.2) with
              | false => exact hq
              | true =>
                have a1 := kitv_ok hI hx h3
                have a2 := kitv_ok hI hy h4
                have a3 := knn_iff.mp h5
                have a4 := knn_iff.mp h6
                have a5 := knn_iff.mp h7
                have m1 : u.1 * v.1 ≤ a * b := Int.mul_le_mul a1.1 a2.1 a4 (by omega)
                have m2 : a * b ≤ u.2 * v.2 := Int.mul_le_mul a1.2 a2.2 (by omega) (by omega)
                have m3 : 0 ≤ u.1 * v.1 := Int.mul_nonneg a3 a4
                have e := hr (by omega) (by omega)
                rw [e]
                exact ⟨m1, m2⟩
/-- the divisor isn't 0 -/
def knz (S : kS) (y : kL) : Bool := match kgeS S (kofs y (-1)) with
  | true => true
  | false => kgeS S (kofs (kneg y) (-1))
def kdiv (S : kS) (x y : kL) (q : Int × Int) : kRes := match kitv S x, kitv S y with
  | some a, some b => match knn a.1 with
    | true => match knn (b.1 - 1) with
      | true => .inr (a.1 / b.2, a.2 / b.1)
      | false => .inr q
    | false => .inr q
  | _, _ => .inr q
theorem kdiv_mono {x y c : Int} (hx : 0 ≤ x) (hc : 0 < c) (h : c ≤ y) : x / y ≤ x / c := by
  rw [Int.le_ediv_iff_mul_le hc]
  have h1 : 0 ≤ x / y := Int.ediv_nonneg hx (by omega)
  have h2 : x / y * y ≤ x := (Int.le_ediv_iff_mul_le (show 0 < y by omega)).mp (Int.le_refl _)
  have h3 : x / y * c ≤ x / y * y := Int.mul_le_mul_of_nonneg_left h h1
  omega
theorem kdiv_ok {env : List Int} {S : kS} {x y : kL} {q : Int × Int} {a b r : Int} (hI : kI env S.1) (hx : kev env x = some a) (hy : kev env y = some b) (hr : 0 ≤ a → 0 < b → r = a / b) (hq : q.1 ≤ r ∧ r ≤ q.2) : kresok env (kdiv S x y q) r := by
  unfold kdiv
  cases h3 : kitv S x with
  | none => exact hq
  | some u =>
    cases h4 : kitv S y with
    | none => exact hq
    | some v =>
      dsimp only
      cases h5 : knn u.1 with
      | false => exact hq
      | true =>
        cases h6 : knn (v.1 - 1) with
        | false => exact hq
        | true =>
          have a1 := kitv_ok hI hx h3
          have a2 := kitv_ok hI hy h4
          have a3 := knn_iff.mp h5
          have a4 := knn_iff.mp h6
          rw [hr (by omega) (by omega)]
          refine ⟨?_, ?_⟩
          · exact Int.le_trans (kdiv_mono a3 (show 0 < b by omega) a2.2) (Int.ediv_le_ediv (by omega) a1.1)
          · exact Int.le_trans (Int.ediv_le_ediv (by omega) a1.2) (kdiv_mono (by omega) (by omega) a2.1)
def krem (S : kS) (x y : kL) (q : Int × Int) : kRes := match kitv S x, kitv S y with
  | some a, some b => match knn (b.1 - 1) with
    | true => match knn a.1 with
      | true => .inr (0, kmin a.2 (b.2 - 1))
      | false => .inr (1 - b.2, b.2 - 1)
    | false => .inr q
  | _, _ => .inr q
theorem krem_ok {env : List Int} {S : kS} {x y : kL} {q : Int × Int} {a b r : Int} (hI : kI env S.1) (hx : kev env x = some a) (hy : kev env y = some b) (hr : r = a.tmod b) (hq : q.1 ≤ r ∧ r ≤ q.2) : kresok env (krem S x y q) r := by
  unfold krem
  cases h3 : kitv S x with
  | none => exact hq
  | some u =>
    cases h4 : kitv S y with
    | none => exact hq
    | some v =>
      dsimp only
      cases h6 : knn (v.1 - 1) with
      | false => exact hq
      | true =>
        have a1 := kitv_ok hI hx h3
        have a2 := kitv_ok hI hy h4
        have a4 := knn_iff.mp h6
        have hb : 0 < b := by omega
        have t1 := Int.tmod_lt_of_pos a hb
        have t2 := Int.lt_tmod_of_pos a hb
        dsimp only
        cases h5 : knn u.1 with
        | true =>
          have a3 := knn_iff.mp h5
          have ha : 0 ≤ a := by omega
          rw [Int.tmod_eq_emod_of_nonneg ha] at hr t1 t2
          have t3 := Int.emod_nonneg a (show b ≠ 0 by omega)
          have t4 : a % b ≤ a := by
            have := Int.mul_nonneg (Int.le_of_lt hb) (Int.ediv_nonneg ha (Int.le_of_lt hb))
            rw [Int.emod_def]
            omega
          show (0 : Int) ≤ r ∧ r ≤ kmin u.2 (v.2 - 1)
          rw [kmin_eq]
          omega
        | false =>
          show (1 - v.2 : Int) ≤ r ∧ r ≤ v.2 - 1
          omega
def kand (S : kS) (x y : kL) (q : Int × Int) : kRes := match kitv S x, kitv S y with
  | some a, some b => match knn a.1 with
    | true => match knn b.1 with
      | true => match kz (a.2 - a.1) with
        | true => match kz (b.2 - b.1) with
          | true => .inr (Int.ofNat (Nat.land a.1.toNat b.1.toNat), Int.ofNat (Nat.land a.1.toNat b.1.toNat))
          | false => .inr (0, kmin a.2 b.2)
        | false => .inr (0, kmin a.2 b.2)
      | false => .inr (0, a.2)
    | false => match knn b.1 with
      | true => .inr (0, b.2)
      | false => .inr q
  | _, _ => .inr q
theorem kand_ok {env : List Int} {S : kS} {x y : kL} {q : Int × Int} {a b r : Int} (hI : kI env S.1) (hx : kev env x = some a) (hy : kev env y = some b) (h1 : 0 ≤ a → 0 ≤ r ∧ r ≤ a) (h2 : 0 ≤ b → 0 ≤ r ∧ r ≤ b) (h3 : 0 ≤ a → 0 ≤ b → r = Int.ofNat (Nat.land a.toNat b.toNat)) (hq : q.1 ≤ r ∧ r ≤ q.2) : kresok env (kand S x y q) r := by
  unfold kand
  cases g3 : kitv S x with
  | none => exact hq
  | some u =>
    cases g4 : kitv S y with
    | none => exact hq
    | some v =>
      have a1 := kitv_ok hI hx g3
      have a2 := kitv_ok hI hy g4
      dsimp only
      cases h5 : knn u.1 with
      | true =>
        have a3 := knn_iff.mp h5
        cases h6 : knn v.1 with
        | true =>
          have a4 := knn_iff.mp h6
          have hm : (0 : Int) ≤ r ∧ r ≤ kmin u.2 v.2 := by
            rw [kmin_eq]
            have := h1 (by omega)
            have := h2 (by omega)
            omega
          dsimp only
          cases h7 : kz (u.2 - u.1) with
          | false => exact hm
          | true =>
            cases h8 : kz (v.2 - v.1) with
            | false => exact hm
            | true =>
              have e1 := kz_iff.mp h7
              have e2 := kz_iff.mp h8
              have e3 : u.1 = a := by omega
              have e4 : v.1 = b := by omega
              rw [h3 (by omega) (by omega), ← e3, ← e4]
              exact ⟨Int.le_refl _, Int.le_refl _⟩
        | false =>
          show (0 : Int) ≤ r ∧ r ≤ u.2
          have := h1 (by omega)
          omega
      | false =>
        cases h6 : knn v.1 with
        | true =>
          have a4 := knn_iff.mp h6
          show (0 : Int) ≤ r ∧ r ≤ v.2
          have := h2 (by omega)
          omega
        | false => exact hq
/-- all bits below those of m -/
def kones (m : Int) : Int := match m with
  | .ofNat 0 => 0
  | .ofNat (n + 1) => Int.ofNat (2 ^ (Nat.log2 (n + 1) + 1) - 1)
  | .negSucc _ => 0
def kor (S : kS) (x y : kL) (q : Int × Int) : kRes := match kitv S x, kitv S y with
  | some a, some b => match knn a.1 with
    | true => match knn b.1 with
      | true => .inr (0, kones (kmax a.2 b.2))
      | false => .inr q
    | false => .inr q
  | _, _ => .inr q
theorem kones_ok {m : Int} (h : 0 ≤ m) : ∃ k : Nat, kones m = 2 ^ k - 1 ∧ m < 2 ^ k := by
  match m, h with
  | .ofNat 0, _ => exact ⟨0, by decide, by decide⟩
  | .ofNat (n + 1), _ =>
    refine ⟨Nat.log2 (n + 1) + 1, ?_, ?_⟩
    · show ((2 ^ (Nat.log2 (n + 1) + 1) - 1 : Nat) : Int) = _
      have : 1 ≤ 2 ^ (Nat.log2 (n + 1) + 1) := Nat.one_le_two_pow
      rw [Int.natCast_sub this]
      simp
    · have : n + 1 < 2 ^ (Nat.log2 (n + 1) + 1) := Nat.lt_log2_self
      show ((n + 1 : Nat) : Int) < 2 ^ _
      exact_mod_cast this
theorem kor_ok {env : List Int} {S : kS} {x y : kL} {q : Int × Int} {a b r : Int} (hI : kI env S.1) (hx : kev env x = some a) (hy : kev env y = some b) (h1 : 0 ≤ a → 0 ≤ b → 0 ≤ r ∧ ∀ k : Nat, a < 2 ^ k → b < 2 ^ k → r < 2 ^ k) (hq : q.1 ≤ r ∧ r ≤ q.2) : kresok env (kor S x y q) r := by
  unfold kor
  cases h3 : kitv S x with
  | none => exact hq
  | some u =>
    cases h4 : kitv S y with
    | none => exact hq
    | some v =>
      have a1 := kitv_ok hI hx h3
      have a2 := kitv_ok hI hy h4
      dsimp only
      cases h5 : knn u.1 with
      | false => exact hq
      | true =>
        have a3 := knn_iff.mp h5
        cases h6 : knn v.1 with
        | false => exact hq
        | true =>
          have a4 := knn_iff.mp h6
          obtain ⟨g1, g2⟩ := h1 (by omega) (by omega)
          show (0 : Int) ≤ r ∧ r ≤ kones (kmax u.2 v.2)
          rw [kmax_eq]
          obtain ⟨k, e1, e2⟩ := kones_ok (m := max u.2 v.2) (by omega)
          have := g2 k (by omega) (by omega)
          rw [e1]
          omega
