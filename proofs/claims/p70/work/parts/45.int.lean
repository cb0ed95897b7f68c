/-! INT AND LONG INSTRUCTIONS -/
def kxor (S : kS) (x y : kL) : kRes := match kLeq y (kcst (-1)) with
  | true => kri S (kofs (kneg x) (-1)) k32
  | false => .inr k32
/-- 2 to the z, z from 0 to 62 -/
def kp2 (z : Int) : Int := match z with
  | .ofNat n => Int.ofNat (2 ^ n)
  | .negSucc _ => 1
def kshl (S : kS) (x y : kL) : kRes := match kitv S x, kitv S y with
  | some a, some b => match knn a.1 with
    | true => match knn b.1 with
      | true => match knn (30 - b.2) with
        | true => match knn (2147483647 - a.2 * kp2 b.2) with
          | true => .inr (a.1 * kp2 b.1, a.2 * kp2 b.2)
          | false => .inr k32
        | false => .inr k32
      | false => .inr k32
    | false => .inr k32
  | _, _ => .inr k32
def kshr (S : kS) (x y : kL) : kRes := match kitv S x, kitv S y with
  | some a, some b => match knn a.1 with
    | true => match knn b.1 with
      | true => match knn (30 - b.2) with
        | true => .inr (a.1 / kp2 b.2, a.2 / kp2 b.1)
        | false => .inr k32
      | false => .inr k32
    | false => .inr k32
  | _, _ => .inr k32
def kib (S : kS) (x y : kL) (ins : Instr) : Option kRes := match ins with
  | .iadd => some (kri S (kadd x y) k32)
  | .isub => some (kri S (ksub x y) k32)
  | .imul => some (kmul S x y k32)
  | .idiv => match knz S y with
    | true => some (kdiv S x y k32)
    | false => none
  | .irem => match knz S y with
    | true => some (krem S x y k32)
    | false => none
  | .iand => some (kand S x y k32)
  | .ior => some (kor S x y k32)
  | .ixor => some (kxor S x y)
  | .ishl => some (kshl S x y)
  | .ishr => some (kshr S x y)
  | .iushr => some (kshr S x y)
  | _ => none
def cib (a b : Int32) (ins : Instr) : Int32 := match ins with
  | .iadd => a + b
  | .isub => a - b
  | .imul => a * b
  | .idiv => a / b
  | .irem => a - a / b * b
  | .iand => a &&& b
  | .ior => a ||| b
  | .ixor => a ^^^ b
  | .ishl => a <<< (b &&& 31)
  | .ishr => a >>> (b &&& 31)
  | .iushr => (a.toUInt32 >>> (b.toUInt32 &&& Int32.toUInt32 31)).toInt32
  | _ => 0
theorem k_nn (x : Int32) (h : 0 ≤ x.toInt) : (x.toBitVec.toNat : Int) = x.toInt ∧ x.toBitVec.toNat < 2 ^ 31 := by
  have e : x.toInt = x.toBitVec.toInt := rfl
  rw [BitVec.toInt_eq_toNat_cond] at e
  have := x.toBitVec.isLt
  split at e <;> omega
theorem k_ofn (x : Int32) (h : x.toBitVec.toNat < 2 ^ 31) : x.toInt = (x.toBitVec.toNat : Int) := by
  have e : x.toInt = x.toBitVec.toInt := rfl
  rw [BitVec.toInt_eq_toNat_cond] at e
  split at e <;> omega
theorem k_and (a b : Int32) (h : 0 ≤ a.toInt) : 0 ≤ (a &&& b).toInt ∧ (a &&& b).toInt ≤ a.toInt := by
  obtain ⟨h1, h2⟩ := k_nn a h
  have e : (a &&& b).toBitVec.toNat = a.toBitVec.toNat &&& b.toBitVec.toNat := by rw [Int32.toBitVec_and, BitVec.toNat_and]
  have l : a.toBitVec.toNat &&& b.toBitVec.toNat ≤ a.toBitVec.toNat := Nat.and_le_left
  rw [k_ofn (a &&& b) (by omega)]
  omega
theorem k_or (a b : Int32) (ha : 0 ≤ a.toInt) (hb : 0 ≤ b.toInt) : 0 ≤ (a ||| b).toInt ∧ ∀ k : Nat, a.toInt < 2 ^ k → b.toInt < 2 ^ k → (a ||| b).toInt < 2 ^ k := by
  obtain ⟨h1, h2⟩ := k_nn a ha
  obtain ⟨h3, h4⟩ := k_nn b hb
  have e : (a ||| b).toBitVec.toNat = a.toBitVec.toNat ||| b.toBitVec.toNat := by rw [Int32.toBitVec_or, BitVec.toNat_or]
  have l : a.toBitVec.toNat ||| b.toBitVec.toNat < 2 ^ 31 := Nat.or_lt_two_pow h2 h4
  rw [k_ofn (a ||| b) (by omega)]
  refine ⟨by omega, fun k g1 g2 => ?_⟩
  rw [← h1] at g1
  rw [← h3] at g2
  rw [e]
  have := Nat.or_lt_two_pow (x := a.toBitVec.toNat) (y := b.toBitVec.toNat) (n := k) (by exact_mod_cast g1) (by exact_mod_cast g2)
  exact_mod_cast this
theorem k_smod : ∀ n, n < 32 → ((nI n &&& 31).toBitVec.smod 32).toNat = n := by decide +kernel
theorem k_umod : ∀ n, n < 32 → (((nI n).toUInt32 &&& Int32.toUInt32 31).toBitVec % 32).toNat = n := by decide +kernel
theorem k_ofk {y : Int32} (h0 : 0 ≤ y.toInt) (h : y.toInt < 32) : ∃ n : Nat, n < 32 ∧ y = nI n ∧ y.toInt = (n : Int) := by
  refine ⟨y.toInt.toNat, by omega, ?_, by omega⟩
  apply Int32.toInt_inj.mp
  rw [nI_toInt (by omega)]
  omega
theorem kp2_of (n : Nat) : kp2 (n : Int) = 2 ^ n := by
  show ((2 ^ n : Nat) : Int) = 2 ^ n
  simp
theorem kp2_pos (z : Int) : 0 < kp2 z := by
  cases z with
  | ofNat n =>
    show (0 : Int) < ((2 ^ n : Nat) : Int)
    exact_mod_cast Nat.two_pow_pos n
  | negSucc n => show (0 : Int) < 1; omega
theorem kp2_le {a b : Int} (h : 0 ≤ a) (hab : a ≤ b) : kp2 a ≤ kp2 b := by
  obtain ⟨n, rfl⟩ := Int.eq_ofNat_of_zero_le h
  obtain ⟨m, rfl⟩ := Int.eq_ofNat_of_zero_le (Int.le_trans h hab)
  show ((2 ^ n : Nat) : Int) ≤ ((2 ^ m : Nat) : Int)
  exact_mod_cast Nat.pow_le_pow_right (by decide) (by omega)
theorem kshr_ok {env : List Int} {S : kS} {x y : kL} {a b r : Int} (hI : kI env S.1) (hx : kev env x = some a) (hy : kev env y = some b) (hr : 0 ≤ a → 0 ≤ b → b < 32 → r = a / kp2 b) (hq : k32.1 ≤ r ∧ r ≤ k32.2) : kresok env (kshr S x y) r := by
  unfold kshr
  cases h3 : kitv S x with
  | none => exact hq
  | some u =>
    cases h4 : kitv S y with
    | none => exact hq
    | some v =>
      have a1 := kitv_ok hI hx h3
      have a2 := kitv_ok hI hy h4
      dsimp only
      cases h5 : knn u.1 with
      | false => exact hq
      | true =>
        cases h6 : knn v.1 with
        | false => exact hq
        | true =>
          dsimp only
          cases h7 : knn (30 - v.2) with
          | false => exact hq
          | true =>
            have a3 := knn_iff.mp h5
            have a4 := knn_iff.mp h6
            have a5 := knn_iff.mp h7
            rw [hr (by omega) (by omega) (by omega)]
            have p1 := kp2_le (a := b) (b := v.2) (by omega) a2.2
            have p2 := kp2_le a4 a2.1
            have q1 := kp2_pos b
            have q2 := kp2_pos v.1
            exact ⟨Int.le_trans (kdiv_mono a3 q1 p1) (Int.ediv_le_ediv q1 a1.1), Int.le_trans (Int.ediv_le_ediv q1 a1.2) (kdiv_mono (by omega) q2 p2)⟩
theorem kshl_ok {env : List Int} {S : kS} {x y : kL} {a b r : Int} (hI : kI env S.1) (hx : kev env x = some a) (hy : kev env y = some b) (hr : 0 ≤ a → 0 ≤ b → b < 32 → a * kp2 b ≤ 2147483647 → r = a * kp2 b) (hq : k32.1 ≤ r ∧ r ≤ k32.2) : kresok env (kshl S x y) r := by
  unfold kshl
  cases h3 : kitv S x with
  | none => exact hq
  | some u =>
    cases h4 : kitv S y with
    | none => exact hq
    | some v =>
      have a1 := kitv_ok hI hx h3
      have a2 := kitv_ok hI hy h4
      dsimp only
      cases h5 : knn u.1 with
      | false => exact hq
      | true =>
        cases h6 : knn v.1 with
        | false => exact hq
        | true =>
          dsimp only
          cases h7 : knn (30 - v.2) with
          | false => exact hq
          | true =>
            dsimp only
            cases h8 : knn (2147483647 - u.2 * kp2 v.2) with
            | false => exact hq
            | true =>
              have a3 := knn_iff.mp h5
              have a4 := knn_iff.mp h6
              have a5 := knn_iff.mp h7
              have a6 := knn_iff.mp h8
              have p1 := kp2_le (a := b) (b := v.2) (by omega) a2.2
              have p2 := kp2_le a4 a2.1
              have q1 := kp2_pos b
              have q2 := kp2_pos v.1
              have m1 : u.1 * kp2 v.1 ≤ a * kp2 b := Int.mul_le_mul a1.1 p2 (by omega) (by omega)
              have m2 : a * kp2 b ≤ u.2 * kp2 v.2 := Int.mul_le_mul a1.2 p1 (by omega) (by omega)
              rw [hr (by omega) (by omega) (by omega) (by omega)]
              exact ⟨m1, m2⟩
section KIB
variable {D : va_G} {cA : Nat → ClassId} {tt : List kT} {Ty : Nat → Nat → Prop} {env : List Int} {ren : List Nat} {S : kS} {H : Heap} {lv : List (Nat × Value)} {st : List Value}
theorem knz_ok {y : kL} {b : Int} (h : kst D cA tt Ty env ren S H lv st) (hy : kev env y = some b) (hn : knz S y = true) : b ≠ 0 := by
  unfold knz at hn
  cases h1 : kgeS S (kofs y (-1)) with
  | true =>
    have := kgeS_ok h (kofs_ev hy) h1
    omega
  | false =>
    rw [h1] at hn
    have := kgeS_ok h (kofs_ev (kneg_ev hy)) hn
    omega
theorem k_irem (x y : Int32) : (x - x / y * y).toInt = x.toInt.tmod y.toInt := by
  rw [Int32.toInt_sub, Int32.toInt_mul, Int32.toInt_div, Int.tmod_def]
  rw [Int.sub_bmod_bmod, Int.sub_eq_add_neg, Int.mul_comm, ← Int.mul_neg, ← Int.add_bmod_bmod, Int.mul_neg, Int.mul_comm]
  rw [show (-(((x.toInt.tdiv y.toInt).bmod (2 ^ 32)) * y.toInt)).bmod (2 ^ 32) = (-((x.toInt.tdiv y.toInt) * y.toInt)).bmod (2 ^ 32) by
    rw [← Int.mul_neg, ← Int.mul_neg, Int.bmod_mul_bmod]]
  rw [Int.add_bmod_bmod, ← Int.sub_eq_add_neg, Int.mul_comm, ← Int.tmod_def]
  have h1 := k32_in x
  have h2 := k32_in y
  by_cases hy : y.toInt = 0
  · rw [hy, Int.tmod_zero]
    exact k32_bm h1.1 h1.2
  · have := Int.natAbs_tmod x.toInt y.toInt
    have l := Nat.mod_le x.toInt.natAbs y.toInt.natAbs
    have l2 := Nat.mod_lt x.toInt.natAbs (show 0 < y.toInt.natAbs by omega)
    apply k32_bm
    · show (-2147483648 : Int) ≤ _
      have : k32.1 = (-2147483648 : Int) := rfl
      have : k32.2 = (2147483647 : Int) := rfl
      omega
    · show _ ≤ (2147483647 : Int)
      have : k32.1 = (-2147483648 : Int) := rfl
      have : k32.2 = (2147483647 : Int) := rfl
      omega
theorem kib_ok {x y : kL} {ins : Instr} {res : kRes} {a b : Int32} (h : kst D cA tt Ty env ren S H lv st) (hx : kev env x = some a.toInt) (hy : kev env y = some b.toInt) (hr : kib S x y ins = some res) : kresok env res (cib a b ins).toInt ∧ ((ins = .idiv ∨ ins = .irem) → ¬ b = 0) := by
  have hI := h.1
  have ne0 : b.toInt ≠ 0 → ¬ b = 0 := fun g e => g (by rw [e]; rfl)
  unfold kib at hr
  split at hr
  · obtain rfl := Option.some.inj hr
    exact ⟨kri_ok hI (kadd_ev hx hy) (fun g1 g2 => by rw [show cib a b .iadd = a + b from rfl, Int32.toInt_add, k32_bm g1 g2]) (k32_in _), fun e => by rcases e with e | e <;> cases e⟩
  · obtain rfl := Option.some.inj hr
    exact ⟨kri_ok hI (ksub_ev hx hy) (fun g1 g2 => by rw [show cib a b .isub = a - b from rfl, Int32.toInt_sub, k32_bm g1 g2]) (k32_in _), fun e => by rcases e with e | e <;> cases e⟩
  · obtain rfl := Option.some.inj hr
    exact ⟨kmul_ok hI hx hy (fun g1 g2 => by rw [show cib a b .imul = a * b from rfl, Int32.toInt_mul, k32_bm g1 g2]) (k32_in _) (by decide), fun e => by rcases e with e | e <;> cases e⟩
  · split at hr
    · rename_i hz
      obtain rfl := Option.some.inj hr
      refine ⟨kdiv_ok hI hx hy (fun g1 g2 => ?_) (k32_in _), fun _ => ne0 (knz_ok h hy hz)⟩
      rw [show cib a b .idiv = a / b from rfl, Int32.toInt_div, Int.tdiv_eq_ediv_of_nonneg g1]
      have l1 := Int.ediv_le_self b.toInt g1
      have l2 := Int.ediv_nonneg g1 (Int.le_of_lt g2)
      have l3 := k32_in a
      exact k32_bm (Int.le_trans (by decide) l2) (Int.le_trans l1 l3.2)
    · cases hr
  · split at hr
    · rename_i hz
      obtain rfl := Option.some.inj hr
      exact ⟨krem_ok hI hx hy (k_irem a b) (k32_in _), fun _ => ne0 (knz_ok h hy hz)⟩
    · cases hr
  · obtain rfl := Option.some.inj hr
    refine ⟨kand_ok hI hx hy (fun g => k_and a b g) (fun g => ?_) (fun g1 g2 => ?_) (k32_in _), fun e => by rcases e with e | e <;> cases e⟩
    · show 0 ≤ (a &&& b).toInt ∧ (a &&& b).toInt ≤ b.toInt
      rw [Int32.and_comm]
      exact k_and b a g
    · obtain ⟨w1, w2⟩ := k_nn a g1
      obtain ⟨w3, w4⟩ := k_nn b g2
      have e : (a &&& b).toBitVec.toNat = a.toBitVec.toNat &&& b.toBitVec.toNat := by rw [Int32.toBitVec_and, BitVec.toNat_and]
      have l : a.toBitVec.toNat &&& b.toBitVec.toNat ≤ a.toBitVec.toNat := Nat.and_le_left
      show (a &&& b).toInt = _
      rw [k_ofn (a &&& b) (by omega), e, ← w1, ← w3]
      rfl
  · obtain rfl := Option.some.inj hr
    exact ⟨kor_ok hI hx hy (fun g1 g2 => k_or a b g1 g2) (k32_in _), fun e => by rcases e with e | e <;> cases e⟩
  · obtain rfl := Option.some.inj hr
    refine ⟨?_, fun e => by rcases e with e | e <;> cases e⟩
    unfold kxor
    cases hq : kLeq y (kcst (-1)) with
    | false => exact k32_in _
    | true =>
      have e := kLeq_eq hq
      subst e
      have e2 : (-1 : Int) = b.toInt := Option.some.inj (kcst_ev.symm.trans hy)
      have e3 : b = -1 := Int32.toInt_inj.mp (by rw [← e2]; rfl)
      subst e3
      refine kri_ok hI (kofs_ev (kneg_ev hx)) (fun g1 g2 => ?_) (k32_in _)
      show (a ^^^ (-1)).toInt = _
      have e4 : a ^^^ (-1) = -a - 1 := by
        apply Int32.toBitVec_inj.mp
        show a.toBitVec ^^^ (BitVec.allOnes 32) = -a.toBitVec - 1#32
        rw [BitVec.xor_allOnes, BitVec.not_eq_neg_add]
      rw [e4, Int32.toInt_sub, Int32.toInt_neg]
      rw [show ((1 : Int32).toInt) = 1 from rfl, Int.bmod_sub_bmod]
      have := k32_bm g1 g2
      rw [show (-a.toInt - 1 : Int) = -a.toInt + -1 by omega]
      exact this
  · obtain rfl := Option.some.inj hr
    refine ⟨kshl_ok hI hx hy (fun g1 g2 g3 g4 => ?_) (k32_in _), fun e => by rcases e with e | e <;> cases e⟩
    obtain ⟨n, hn, e1, e2⟩ := k_ofk g2 g3
    rw [e2, kp2_of] at g4 ⊢
    subst e1
    have p := Int.mul_nonneg g1 (show (0 : Int) ≤ 2 ^ n from by have := kp2_pos (n : Int); rw [kp2_of] at this; omega)
    obtain ⟨w1, w2⟩ := k_nn a g1
    have e3 := pk_shl a _ n (k_smod n hn)
    rw [← w1] at g4 p ⊢
    have ep : (2 : Int) ^ n = ((2 ^ n : Nat) : Int) := (kp2_of n).symm
    rw [ep, ← Int.natCast_mul] at g4 ⊢
    have g5 : a.toBitVec.toNat * 2 ^ n ≤ 2147483647 := by omega
    rw [Nat.mod_eq_of_lt (by omega)] at e3
    show (a <<< (nI n &&& 31)).toInt = _
    rw [k_ofn _ (by omega), e3]
  · obtain rfl := Option.some.inj hr
    refine ⟨kshr_ok hI hx hy (fun g1 g2 g3 => ?_) (k32_in _), fun e => by rcases e with e | e <;> cases e⟩
    obtain ⟨n, hn, e1, e2⟩ := k_ofk g2 g3
    rw [e2, kp2_of]
    subst e1
    show (a >>> (nI n &&& 31)).toInt = _
    rw [pk_shr a _ n (k_smod n hn), Int.shiftRight_eq_div_pow]
    simp
  · obtain rfl := Option.some.inj hr
    refine ⟨kshr_ok hI hx hy (fun g1 g2 g3 => ?_) (k32_in _), fun e => by rcases e with e | e <;> cases e⟩
    obtain ⟨n, hn, e1, e2⟩ := k_ofk g2 g3
    rw [e2, kp2_of]
    subst e1
    obtain ⟨w1, w2⟩ := k_nn a g1
    have e3 := pk_ushr a (nI n) n (k_umod n hn)
    have l := Nat.div_le_self a.toBitVec.toNat (2 ^ n)
    show ((a.toUInt32 >>> ((nI n).toUInt32 &&& Int32.toUInt32 31)).toInt32).toInt = _
    rw [k_ofn _ (by omega), e3, ← w1]
    simp
  · cases hr
end KIB
