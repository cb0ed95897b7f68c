def klo (S : kS) (x y : kL) (ins : Instr) : Option kRes := match ins with
  | .ladd => some (kri S (kadd x y) k64)
  | .lsub => some (kri S (ksub x y) k64)
  | .lmul => some (kmul S x y k64)
  | .ldiv => match knz S y with
    | true => some (kdiv S x y k64)
    | false => none
  | .lrem => match knz S y with
    | true => some (krem S x y k64)
    | false => none
  | .land => some (.inr k64)
  | .lor => some (.inr k64)
  | _ => none
def clo (a b : Int64) (ins : Instr) : Int64 := match ins with
  | .ladd => a + b
  | .lsub => a - b
  | .lmul => a * b
  | .ldiv => a / b
  | .lrem => a - a / b * b
  | .land => a &&& b
  | .lor => a ||| b
  | _ => 0
theorem k_lrem (x y : Int64) : (x - x / y * y).toInt = x.toInt.tmod y.toInt := by
  rw [Int64.toInt_sub, Int64.toInt_mul, Int64.toInt_div, Int.tmod_def]
  rw [Int.sub_bmod_bmod, Int.sub_eq_add_neg, Int.mul_comm, ← Int.mul_neg, ← Int.add_bmod_bmod, Int.mul_neg, Int.mul_comm]
  rw [show (-(((x.toInt.tdiv y.toInt).bmod (2 ^ 64)) * y.toInt)).bmod (2 ^ 64) = (-((x.toInt.tdiv y.toInt) * y.toInt)).bmod (2 ^ 64) by
    rw [← Int.mul_neg, ← Int.mul_neg, Int.bmod_mul_bmod]]
  rw [Int.add_bmod_bmod, ← Int.sub_eq_add_neg, Int.mul_comm, ← Int.tmod_def]
  have h1 := k64_in x
  have h2 := k64_in y
  have e1 : k64.1 = (-9223372036854775808 : Int) := rfl
  have e2 : k64.2 = (9223372036854775807 : Int) := rfl
  by_cases hy : y.toInt = 0
  · rw [hy, Int.tmod_zero]
    exact k64_bm h1.1 h1.2
  · have := Int.natAbs_tmod x.toInt y.toInt
    have l := Nat.mod_le x.toInt.natAbs y.toInt.natAbs
    have l2 := Nat.mod_lt x.toInt.natAbs (show 0 < y.toInt.natAbs by omega)
    apply k64_bm
    · rw [e1]; omega
    · rw [e2]; omega
section KLO
variable {D : va_G} {cA : Nat → ClassId} {tt : List kT} {Ty : Nat → Nat → Prop} {env : List Int} {ren : List Nat} {S : kS} {H : Heap} {lv : List (Nat × Value)} {st : List Value}
theorem klo_ok {x y : kL} {ins : Instr} {res : kRes} {a b : Int64} (h : kst D cA tt Ty env ren S H lv st) (hx : kev env x = some a.toInt) (hy : kev env y = some b.toInt) (hr : klo S x y ins = some res) : kresok env res (clo a b ins).toInt ∧ ((ins = .ldiv ∨ ins = .lrem) → ¬ b = 0) := by
  have hI := h.1
  have ne0 : b.toInt ≠ 0 → ¬ b = 0 := fun g e => g (by rw [e]; rfl)
  unfold klo at hr
  split at hr
  · obtain rfl := Option.some.inj hr
    exact ⟨kri_ok hI (kadd_ev hx hy) (fun g1 g2 => by rw [show clo a b .ladd = a + b from rfl, Int64.toInt_add, k64_bm g1 g2]) (k64_in _), fun e => by rcases e with e | e <;> cases e⟩
  · obtain rfl := Option.some.inj hr
    exact ⟨kri_ok hI (ksub_ev hx hy) (fun g1 g2 => by rw [show clo a b .lsub = a - b from rfl, Int64.toInt_sub, k64_bm g1 g2]) (k64_in _), fun e => by rcases e with e | e <;> cases e⟩
  · obtain rfl := Option.some.inj hr
    exact ⟨kmul_ok hI hx hy (fun g1 g2 => by rw [show clo a b .lmul = a * b from rfl, Int64.toInt_mul, k64_bm g1 g2]) (k64_in _) (by decide), fun e => by rcases e with e | e <;> cases e⟩
  · split at hr
    · rename_i hz
      obtain rfl := Option.some.inj hr
      refine ⟨kdiv_ok hI hx hy (fun g1 g2 => ?_) (k64_in _), fun _ => ne0 (knz_ok h hy hz)⟩
      rw [show clo a b .ldiv = a / b from rfl, Int64.toInt_div, Int.tdiv_eq_ediv_of_nonneg g1]
      have l1 := Int.ediv_le_self b.toInt g1
      have l2 := Int.ediv_nonneg g1 (Int.le_of_lt g2)
      have l3 := k64_in a
      exact k64_bm (Int.le_trans (by decide) l2) (Int.le_trans l1 l3.2)
    · cases hr
  · split at hr
    · rename_i hz
      obtain rfl := Option.some.inj hr
      exact ⟨krem_ok hI hx hy (k_lrem a b) (k64_in _), fun _ => ne0 (knz_ok h hy hz)⟩
    · cases hr
  · obtain rfl := Option.some.inj hr
    exact ⟨k64_in _, fun e => by rcases e with e | e <;> cases e⟩
  · obtain rfl := Option.some.inj hr
    exact ⟨k64_in _, fun e => by rcases e with e | e <;> cases e⟩
  · cases hr
end KLO
/-- within q as it is, else somewhere in q -/
theorem kri_id {env : List Int} {S : kS} {x : kL} {q : Int × Int} {a r : Int} (hI : kI env S.1) (hx : kev env x = some a) (hr : q.1 ≤ a → a ≤ q.2 → r = a) (hq : q.1 ≤ r ∧ r ≤ q.2) : kresok env (kri S x q) r := kri_ok hI hx hr hq
theorem k_i2l (a : Int32) : a.toInt64.toInt = a.toInt := Int32.toInt_toInt64 a
theorem k_l2i {a : Int64} (h1 : k32.1 ≤ a.toInt) (h2 : a.toInt ≤ k32.2) : a.toInt32.toInt = a.toInt := by
  rw [Int64.toInt_toInt32, k32_bm h1 h2]
theorem k_i2b_in (a : Int32) : (-128 : Int) ≤ a.toInt8.toInt32.toInt ∧ a.toInt8.toInt32.toInt ≤ 127 := by
  rw [Int8.toInt_toInt32]
  have h1 := Int8.toInt_lt a.toInt8
  have h2 := Int8.le_toInt a.toInt8
  omega
theorem k_i2b {a : Int32} (h1 : (-128 : Int) ≤ a.toInt) (h2 : a.toInt ≤ 127) : a.toInt8.toInt32.toInt = a.toInt := by
  rw [Int8.toInt_toInt32, Int32.toInt_toInt8]
  apply Int.bmod_eq_of_le <;> omega
theorem k_i2s_in (a : Int32) : (-32768 : Int) ≤ a.toInt16.toInt32.toInt ∧ a.toInt16.toInt32.toInt ≤ 32767 := by
  rw [Int16.toInt_toInt32]
  have h1 := Int16.toInt_lt a.toInt16
  have h2 := Int16.le_toInt a.toInt16
  omega
theorem k_i2s {a : Int32} (h1 : (-32768 : Int) ≤ a.toInt) (h2 : a.toInt ≤ 32767) : a.toInt16.toInt32.toInt = a.toInt := by
  rw [Int16.toInt_toInt32, Int32.toInt_toInt16]
  apply Int.bmod_eq_of_le <;> omega
