/-! BY HAND: can so many cover -/
section HCAN
variable {l : Launch} {D : va_G} {cA aS adV : Nat → Nat} {Ty : Nat → Nat → Prop} {lo : Nat}
def ow_c55 : kOw := ([(55, 10, 30, 3)], [], [], [], [])
theorem wf_c55 : kOwF "SilenceMatchModel" ow_c55 k_cl k_lg := kOwFb_ok (ps := [1251]) (by decide +kernel)
/-- how much is left to try -/
def mu (n : Nat) (A : Nat → Nat) : Nat → Nat
  | 0 => 2 ^ (n + 1 - A 0) - 1
  | d + 1 => mu n A d + (2 ^ (n + 1 - A (d + 1)) - 1)
theorem mu_congr {n : Nat} {A B : Nat → Nat} : ∀ {d : Nat}, (∀ i, i ≤ d → A i = B i) → mu n A d = mu n B d
  | 0, h => by unfold mu; rw [h 0 (Nat.le_refl _)]
  | d + 1, h => by
    unfold mu
    rw [mu_congr (d := d) (fun i hi => h i (by omega)), h (d + 1) (Nat.le_refl _)]
def cU (A : Nat → Nat) (d v : Nat) (i : Nat) : Nat := if i = d then v else A i
theorem cU_same {A : Nat → Nat} {d v : Nat} : cU A d v d = v := by simp [cU]
theorem cU_ne {A : Nat → Nat} {d v i : Nat} (h : i ≠ d) : cU A d v i = A i := by simp [cU, h]
theorem mu_pow {k : Nat} (h : 1 ≤ k) : 2 ^ k = 2 * 2 ^ (k - 1) ∧ 1 ≤ 2 ^ (k - 1) := by
  obtain ⟨j, rfl⟩ : ∃ j, k = j + 1 := ⟨k - 1, by omega⟩
  rw [Nat.pow_succ]
  refine ⟨by show _ = 2 * 2 ^ j; omega, Nat.one_le_two_pow⟩
theorem mu_inc {n d v : Nat} {A : Nat → Nat} (h : A d < n) (hv : v = A d + 1) : mu n (cU A d v) d < mu n A d ∧ mu n (cU A d v) d + (2 ^ (n + 1 - v) - 1) < mu n A d := by
  subst hv
  obtain ⟨p1, p2⟩ := mu_pow (k := n + 1 - A d) (by omega)
  have e : n + 1 - A d - 1 = n + 1 - (A d + 1) := by omega
  rw [e] at p1 p2
  cases d with
  | zero =>
    unfold mu
    rw [cU_same]
    omega
  | succ d =>
    unfold mu
    rw [cU_same, mu_congr (d := d) (A := cU A (d + 1) (A (d + 1) + 1)) (B := A) (fun i hi => cU_ne (by omega))]
    omega
theorem mu_pop {n d : Nat} {A : Nat → Nat} (h : A (d + 1) ≤ n) : mu n A d < mu n A (d + 1) := by
  obtain ⟨p1, p2⟩ := mu_pow (k := n + 1 - A (d + 1)) (by omega)
  conv => rhs; unfold mu
  omega
theorem c_m1 {k : Nat} : Int32.ofNat k - 1 + 1 = Int32.ofNat k := Int32.sub_add_cancel _ _
theorem c_s1 {k : Nat} : Int32.ofNat (k + 1) - 1 = Int32.ofNat k := by
  rw [Int32.ofNat_add]
  exact Int32.add_sub_cancel _ _
theorem c_eq {a b : Nat} (ha : a < 1000) (hb : b < 1000) : Int32.ofNat a = Int32.ofNat b ↔ a = b := by
  refine ⟨fun h => ?_, fun h => by rw [h]⟩
  have := congrArg Int32.toInt h
  rw [c_ofn ha, c_ofn hb] at this
  omega
theorem c_sub {a b : Nat} (ha : a < 1000) (hb : b ≤ a) : Int32.ofNat a - Int32.ofNat b = Int32.ofNat (a - b) := by
  apply Int32.toInt_inj.mp
  rw [Int32.toInt_sub, c_ofn ha, c_ofn (by omega), c_ofn (by omega), k32_bm (by show (-2147483648 : Int) ≤ _; omega) (by show _ ≤ (2147483647 : Int); omega)]
  omega
theorem c_slt {a b : Nat} (ha : a < 1000) (hb : b < 1000) : Int32.ofNat a < Int32.ofNat b ↔ a < b := by
  rw [Int32.lt_iff_toInt_lt, c_ofn ha, c_ofn hb]
  omega
def sA (D : va_G) (cA : Nat → Nat) (cb : Nat) (A : Nat → Nat) (d : Nat) (H : Heap) : Prop := ∀ V, kcell D cA kt_48 cb H V → ∀ i, i ≤ d → V i = .int (Int32.ofNat (A i) - 1)
/-- what the one try that must succeed has reached -/
def sK (D : va_G) (cA : Nat → Nat) (cr n : Nat) (A : Nat → Nat) (d : Nat) (H : Heap) : Prop := A d = d ∧ ∀ V, kcell D cA kt_49 cr H V → ∃ x : Int32, V d = .int x ∧ (∀ t, t < 32 → bt x t = true → t < n) ∧ ∀ t, t < d → bt x t = true
def canQ (D : va_G) (cA : Nat → Nat) (Ty : Nat → Nat → Prop) (lo : Nat) (must : Prop) (H : Heap) (v : Option Value) (H' : Heap) : Prop := ∃ b : Bool, v = some (.int (if b = true then 1 else 0)) ∧ (must → b = true) ∧ kgood D cA k_tt Ty lo H' ∧ kfr lo H H' ∧ kkp D cA k_tt Ty [(48, none), (49, none)] H H'

set_option maxHeartbeats 8000000 in
theorem qm_canCov {r w ca cb cr n mn : Nat} {w0 w1 mo : Int32} (hT : kTyp k_tt Ty) (hr : Ty r 36) (hw : Ty w 37) (hca : Ty ca 47) (hcb : Ty cb 48) (hcr : Ty cr 49) (hn : w0 * w1 = Int32.ofNat n) (hn1 : 1 ≤ n) (hn2 : n ≤ 20) (hm1 : 1 ≤ mn) (hm2 : mn ≤ n) (hmo1 : 1 ≤ mo.toInt) (hmo2 : mo.toInt ≤ 20) : hMet l D cA aS lo qy_canCov prog_12_method_95_code 6 (some .boolean) 1 [.ref r, .int (Int32.ofNat mn), .int mo] (fun H => kgood D cA k_tt Ty lo H ∧ cP3 D cA r w ca cb cr w0 w1 H ∧ cF D cA ca n n H) (canQ D cA Ty lo (mn = n)) := by
  refine hmk (by decide +kernel) (show 3 ≤ 6 by decide) (fun p e s m below meth c ls hcx hP hlv => ?_)
  obtain ⟨hexec, hb, hml, hown, hts, hrt, hlk, hK, -⟩ := id hcx
  have hown : s.vm.findClass "SilenceMatchModel" = some m.cls := hown
  have dc := qd_canCov
  have d0 := dc _ (List.mem_of_getElem? (i := 0) rfl)
  have d1 := dc _ (List.mem_of_getElem? (i := 1) rfl)
  have d2 := dc _ (List.mem_of_getElem? (i := 2) rfl)
  have d5 := dc _ (List.mem_of_getElem? (i := 3) rfl)
  have d6 := dc _ (List.mem_of_getElem? (i := 4) rfl)
  have d7 := dc _ (List.mem_of_getElem? (i := 5) rfl)
  have d8 := dc _ (List.mem_of_getElem? (i := 6) rfl)
  have d9 := dc _ (List.mem_of_getElem? (i := 7) rfl)
  have d10 := dc _ (List.mem_of_getElem? (i := 8) rfl)
  have d12 := dc _ (List.mem_of_getElem? (i := 9) rfl)
  have d13 := dc _ (List.mem_of_getElem? (i := 10) rfl)
  have d16 := dc _ (List.mem_of_getElem? (i := 11) rfl)
  have d17 := dc _ (List.mem_of_getElem? (i := 12) rfl)
  have d18 := dc _ (List.mem_of_getElem? (i := 13) rfl)
  have d19 := dc _ (List.mem_of_getElem? (i := 14) rfl)
  have d20 := dc _ (List.mem_of_getElem? (i := 15) rfl)
  have d23 := dc _ (List.mem_of_getElem? (i := 16) rfl)
  have d24 := dc _ (List.mem_of_getElem? (i := 17) rfl)
  have d25 := dc _ (List.mem_of_getElem? (i := 18) rfl)
  have d26 := dc _ (List.mem_of_getElem? (i := 19) rfl)
  have d28 := dc _ (List.mem_of_getElem? (i := 20) rfl)
  have d31 := dc _ (List.mem_of_getElem? (i := 21) rfl)
  have d32 := dc _ (List.mem_of_getElem? (i := 22) rfl)
  have d35 := dc _ (List.mem_of_getElem? (i := 23) rfl)
  have d37 := dc _ (List.mem_of_getElem? (i := 24) rfl)
  have d38 := dc _ (List.mem_of_getElem? (i := 25) rfl)
  have d39 := dc _ (List.mem_of_getElem? (i := 26) rfl)
  have d40 := dc _ (List.mem_of_getElem? (i := 27) rfl)
  have d41 := dc _ (List.mem_of_getElem? (i := 28) rfl)
  have d42 := dc _ (List.mem_of_getElem? (i := 29) rfl)
  have d43 := dc _ (List.mem_of_getElem? (i := 30) rfl)
  have d46 := dc _ (List.mem_of_getElem? (i := 31) rfl)
  have d48 := dc _ (List.mem_of_getElem? (i := 32) rfl)
  have d49 := dc _ (List.mem_of_getElem? (i := 33) rfl)
  have d50 := dc _ (List.mem_of_getElem? (i := 34) rfl)
  have d53 := dc _ (List.mem_of_getElem? (i := 35) rfl)
  have d56 := dc _ (List.mem_of_getElem? (i := 36) rfl)
  have d59 := dc _ (List.mem_of_getElem? (i := 37) rfl)
  have d62 := dc _ (List.mem_of_getElem? (i := 38) rfl)
  have d63 := dc _ (List.mem_of_getElem? (i := 39) rfl)
  have d66 := dc _ (List.mem_of_getElem? (i := 40) rfl)
  have d68 := dc _ (List.mem_of_getElem? (i := 41) rfl)
  have d69 := dc _ (List.mem_of_getElem? (i := 42) rfl)
  have d70 := dc _ (List.mem_of_getElem? (i := 43) rfl)
  have d73 := dc _ (List.mem_of_getElem? (i := 44) rfl)
  have d74 := dc _ (List.mem_of_getElem? (i := 45) rfl)
  have d77 := dc _ (List.mem_of_getElem? (i := 46) rfl)
  have d79 := dc _ (List.mem_of_getElem? (i := 47) rfl)
  have d80 := dc _ (List.mem_of_getElem? (i := 48) rfl)
  have d81 := dc _ (List.mem_of_getElem? (i := 49) rfl)
  have d82 := dc _ (List.mem_of_getElem? (i := 50) rfl)
  have d84 := dc _ (List.mem_of_getElem? (i := 51) rfl)
  have d86 := dc _ (List.mem_of_getElem? (i := 52) rfl)
  have d87 := dc _ (List.mem_of_getElem? (i := 53) rfl)
  have d90 := dc _ (List.mem_of_getElem? (i := 54) rfl)
  have d92 := dc _ (List.mem_of_getElem? (i := 55) rfl)
  have d93 := dc _ (List.mem_of_getElem? (i := 56) rfl)
  have d94 := dc _ (List.mem_of_getElem? (i := 57) rfl)
  have d95 := dc _ (List.mem_of_getElem? (i := 58) rfl)
  have d98 := dc _ (List.mem_of_getElem? (i := 59) rfl)
  have d99 := dc _ (List.mem_of_getElem? (i := 60) rfl)
  have d100 := dc _ (List.mem_of_getElem? (i := 61) rfl)
  have d102 := dc _ (List.mem_of_getElem? (i := 62) rfl)
  have d103 := dc _ (List.mem_of_getElem? (i := 63) rfl)
  have d104 := dc _ (List.mem_of_getElem? (i := 64) rfl)
  have d105 := dc _ (List.mem_of_getElem? (i := 65) rfl)
  have d108 := dc _ (List.mem_of_getElem? (i := 66) rfl)
  have d109 := dc _ (List.mem_of_getElem? (i := 67) rfl)
  have d111 := dc _ (List.mem_of_getElem? (i := 68) rfl)
  have d112 := dc _ (List.mem_of_getElem? (i := 69) rfl)
  have d113 := dc _ (List.mem_of_getElem? (i := 70) rfl)
  have d114 := dc _ (List.mem_of_getElem? (i := 71) rfl)
  have d117 := dc _ (List.mem_of_getElem? (i := 72) rfl)
  have d118 := dc _ (List.mem_of_getElem? (i := 73) rfl)
  have d119 := dc _ (List.mem_of_getElem? (i := 74) rfl)
  have d120 := dc _ (List.mem_of_getElem? (i := 75) rfl)
  have d121 := dc _ (List.mem_of_getElem? (i := 76) rfl)
  have d123 := dc _ (List.mem_of_getElem? (i := 77) rfl)
  have d124 := dc _ (List.mem_of_getElem? (i := 78) rfl)
  have d125 := dc _ (List.mem_of_getElem? (i := 79) rfl)
  have d128 := dc _ (List.mem_of_getElem? (i := 80) rfl)
  have d131 := dc _ (List.mem_of_getElem? (i := 81) rfl)
  have d134 := dc _ (List.mem_of_getElem? (i := 82) rfl)
  have d135 := dc _ (List.mem_of_getElem? (i := 83) rfl)
  have d138 := dc _ (List.mem_of_getElem? (i := 84) rfl)
  have d140 := dc _ (List.mem_of_getElem? (i := 85) rfl)
  have d142 := dc _ (List.mem_of_getElem? (i := 86) rfl)
  have d143 := dc _ (List.mem_of_getElem? (i := 87) rfl)
  have d144 := dc _ (List.mem_of_getElem? (i := 88) rfl)
  have d147 := dc _ (List.mem_of_getElem? (i := 89) rfl)
  have d149 := dc _ (List.mem_of_getElem? (i := 90) rfl)
  have d150 := dc _ (List.mem_of_getElem? (i := 91) rfl)
  have d153 := dc _ (List.mem_of_getElem? (i := 92) rfl)
  have d155 := dc _ (List.mem_of_getElem? (i := 93) rfl)
  have d156 := dc _ (List.mem_of_getElem? (i := 94) rfl)
  have d157 := dc _ (List.mem_of_getElem? (i := 95) rfl)
  have d158 := dc _ (List.mem_of_getElem? (i := 96) rfl)
  have d159 := dc _ (List.mem_of_getElem? (i := 97) rfl)
  have d162 := dc _ (List.mem_of_getElem? (i := 98) rfl)
  have d163 := dc _ (List.mem_of_getElem? (i := 99) rfl)
  dsimp only at d0 d1 d2 d5 d6 d7 d8 d9 d10 d12 d13 d16 d17 d18 d19 d20 d23 d24 d25 d26 d28 d31 d32 d35 d37 d38 d39 d40 d41 d42 d43 d46 d48 d49 d50 d53 d56 d59 d62 d63 d66 d68 d69 d70 d73 d74 d77 d79 d80 d81 d82 d84 d86 d87 d90 d92 d93 d94 d95 d98 d99 d100 d102 d103 d104 d105 d108 d109 d111 d112 d113 d114 d117 d118 d119 d120 d121 d123 d124 d125 d128 d131 d134 d135 d138 d140 d142 d143 d144 d147 d149 d150 d153 d155 d156 d157 d158 d159 d162 d163
  have hmP : ∀ {H : Heap} {locs : List Loc}, kmov D cA k_tt Ty lo [(48, none), (49, none)] s.heap H locs → cP3 D cA r w ca cb cr w0 w1 H := fun hm => cP3_mov hr hw (fun q hq => by
    rcases List.mem_cons.mp hq with rfl | hq
    · exact ⟨by decide, by decide⟩
    · obtain rfl := List.mem_singleton.mp hq
      exact ⟨by decide, by decide⟩) hP.2.1 hm
  have hmL : ∀ {H : Heap} {locs L : List Loc}, kmov D cA k_tt Ty lo [(48, none), (49, none)] s.heap H locs → (∀ q ∈ L, lo ≤ q.base) → kmov D cA k_tt Ty lo [(48, none), (49, none)] s.heap H (locs ++ L) := fun hm hL => ⟨hm.1, hm.2.1, hm.2.2.1, fun q hq => by
    rcases List.mem_append.mp hq with g | g
    · exact hm.2.2.2 q g
    · exact hL q g⟩
  have hmF : ∀ {H : Heap} {locs : List Loc} (q : Nat), kmov D cA k_tt Ty lo [(48, none), (49, none)] s.heap H locs → q < n → ∃ V x, kcell D cA kt_47 ca H V ∧ V q = .int x ∧ (∀ i, i < 32 → bt x i = true → i < n) ∧ bt x q = true := fun {H} {locs} q hm hq => by
    obtain ⟨-, V0, hV0, -⟩ := hP.1.1 ca 47 _ hca kt47
    obtain ⟨x, g1, g2, g3⟩ := hP.2.2 V0 hV0 q hq
    obtain ⟨V, v1, v2⟩ := hm.2.2.1 ca 47 kt_47 V0 q hca kt47 hV0 (show q < 20 by omega) (fun q2 hq2 e2 => by
      rcases List.mem_cons.mp hq2 with rfl | hq2
      · exact absurd e2 (by decide)
      · obtain rfl := List.mem_singleton.mp hq2
        exact absurd e2 (by decide))
    exact ⟨V, x, v1, v2.trans g1, g2, g3⟩
  have h48 : ∀ {H H1 : Heap} {locs : List Loc} {V : Nat → Value} {z i : Nat} {v : Int32}, kmov D cA k_tt Ty lo [(48, none), (49, none)] s.heap H locs → kvals Ty kt_48 V → kcell D cA kt_48 cb H1 (updV V z (.int v)) → H1.size = H.size → (∀ q, q ≠ cb → H1[q]? = H[q]?) → kmov D cA k_tt Ty lo [(48, none), (49, none)] s.heap H1 (locs ++ [⟨cb, i⟩]) := fun hm hv hc hs ho => c_put (k := 20) (P := kt_any) hT hm hcb kt48 List.mem_cons_self rfl (by decide) hv hc hs ho rfl rfl ⟨_, rfl, _, List.mem_singleton.mpr rfl, (k32_in _).1, (k32_in _).2⟩
  have h49 : ∀ {H H1 : Heap} {locs : List Loc} {V : Nat → Value} {z i : Nat} {v : Int32}, kmov D cA k_tt Ty lo [(48, none), (49, none)] s.heap H locs → kvals Ty kt_49 V → kcell D cA kt_49 cr H1 (updV V z (.int v)) → H1.size = H.size → (∀ q, q ≠ cr → H1[q]? = H[q]?) → kmov D cA k_tt Ty lo [(48, none), (49, none)] s.heap H1 (locs ++ [⟨cr, i⟩]) := fun hm hv hc hs ho => c_put (k := 21) (P := kt_any) hT hm hcr kt49 (List.mem_cons_of_mem _ List.mem_cons_self) rfl (by decide) hv hc hs ho rfl rfl ⟨_, rfl, _, List.mem_singleton.mpr rfl, (k32_in _).1, (k32_in _).2⟩
  have hbr : cb ≠ cr := fun e0 => by
    subst e0
    have := kTyp_eq hT hcb hcr kt48 kt49
    omega
  have fin : ∀ (b : Bool) (H : Heap) (locs : List Loc) (ls : Array Slot) (pc : Nat), (mn = n → b = true) → kmov D cA k_tt Ty lo [(48, none), (49, none)] s.heap H locs → decode prog_12_method_95_code pc = .ok (.ireturn, 1) → hOwe p l e lo 1 (canQ D cA Ty lo (mn = n)) s m ([.ref r, .int (Int32.ofNat mn), .int mo] : List Value).toArray below meth c H locs pc ls [.int (if b = true then 1 else 0)] := fun b H locs ls pc hbt hm hd => W.zret hexec hb hrt (by cases b <;> rfl) (fun t ht _ => ⟨_, rfl, b, rfl, hbt, by rw [ht]; exact hm.1, by rw [ht]; exact hm.2.1, by rw [ht]; exact hm.2.2.1⟩) hm.2.2.2 hd hlk
  have hal := bt_all n (by omega)
  generalize hale : (1 : Int32) <<< (Int32.ofNat n &&& 31) - 1 = al at hal
  have loop : ∀ (f dp : Nat) (A : Nat → Nat) (H : Heap) (locs : List Loc) (ls : Array Slot), mu n A dp < f → dp < mn → (∀ i, i ≤ dp → A i ≤ n) → kmov D cA k_tt Ty lo [(48, none), (49, none)] s.heap H locs → sA D cA cb A dp H → (mn = n → sK D cA cr n A dp H) → lv_has ls 6 [(0, .ref r), (1, .int (Int32.ofNat mn)), (2, .int mo), (3, .int al), (4, .int (Int32.ofNat dp))] → hOwe p l e lo 1 (canQ D cA Ty lo (mn = n)) s m ([.ref r, .int (Int32.ofNat mn), .int mo] : List Value).toArray below meth c H locs 26 ls [] := by
    intro f
    induction f with
    | zero => intro dp A H locs ls hmu; omega
    | succ f ih =>
      intro dp A H locs ls hmu hdp hA hm hsA hsK hl
      have hAd := hA dp (Nat.le_refl _)
      obtain ⟨V36, W37, c1, e1, e28, e29, e30, c2, f0, f1⟩ := id (hmP hm)
      refine lv_iload hexec hb d26 (lv_at hl 4 rfl) ?_
      refine lv_if_lt (tgt := 162) hexec hb d28 rfl (fun hlt => absurd (Int32.lt_iff_toInt_lt.mp hlt) (by rw [c_ofn (by omega)]; show ¬ _ < (0 : Int); omega)) (fun _ => ?_)
      refine lv_aload_n hexec hb d31 rfl (lv_at hl 0 rfl) ?_
      refine h_get (T := kt_36) (ow := ow_SilenceMatchModel) (idx := 52) (j := 29) (tc := 3) hexec hb hts k_clok hown hK wf_SilenceMatchModel (by decide) rfl (by decide) c1 d32 ?_
      rw [e29]
      refine lv_iload hexec hb d35 (lv_at hl 4 rfl) ?_
      refine lv_dup2_11 hexec hb d37 rfl rfl ?_
      obtain ⟨-, V48, hV48, hv48⟩ := hm.1.1 cb 48 _ hcb kt48
      refine r_ald (T := kt_48) (ty := .int) (z := dp) hexec hb hK rfl rfl rfl (c_ofn (by omega)) (show dp < 20 by omega) hV48 d38 ?_
      rw [hsA V48 hV48 dp (Nat.le_refl _)]
      refine lv_iconst (v := 1) hexec hb d39 rfl ?_
      refine lv_iadd hexec hb d40 ?_
      rw [c_m1]
      refine r_ast (T := kt_48) (ty := .int) (z := dp) (v := .int (Int32.ofNat (A dp))) hexec hb hK rfl rfl rfl trivial (c_ofn (by omega)) (show dp < 20 by omega) hV48 d41 (fun H1 q0 hc1 hs1 ho1 => ?_)
      have hmA : kmov D cA k_tt Ty lo [(48, none), (49, none)] s.heap H1 (locs ++ [⟨cb, q0⟩]) := h48 hm hv48 hc1 hs1 ho1
      have hs48 : ∀ i, i ≤ dp → i ≠ dp → updV V48 dp (.int (Int32.ofNat (A dp))) i = .int (Int32.ofNat (A i) - 1) := fun i hi hne => by
        rw [updV_ne hne]
        exact hsA V48 hV48 i hi
      have hsK1 : mn = n → sK D cA cr n A dp H1 := fun e0 => ⟨(hsK e0).1, fun V hV => (hsK e0).2 V (kcell_kept hV (ho1 cr (Ne.symm hbr)).symm)⟩
      clear hsK
      have hm := hmA
      clear c1 e1 e28 e29 e30 c2 f0 f1
      obtain ⟨V36, W37, c1, e1, e28, e29, e30, c2, f0, f1⟩ := id (hmP hm)
      refine lv_aload_n hexec hb d42 rfl (lv_at hl 0 rfl) ?_
      refine h_get (T := kt_36) (ow := ow_SilenceMatchModel) (idx := 52) (j := 29) (tc := 3) hexec hb hts k_clok hown hK wf_SilenceMatchModel (by decide) rfl (by decide) c1 d43 ?_
      rw [e29]
      refine lv_iload hexec hb d46 (lv_at hl 4 rfl) ?_
      refine r_ald (T := kt_48) (ty := .int) (z := dp) hexec hb hK rfl rfl rfl (c_ofn (by omega)) (show dp < 20 by omega) hc1 d48 ?_
      rw [updV_same]
      refine lv_aload_n hexec hb d49 rfl (lv_at hl 0 rfl) ?_
      refine h_callV (lo := lo) (As := []) (n := 0) (d' := 0) (P := cP D cA r w w0 w1) hexec hb hml hown hts hK c1 qm_cellMany (cP3_P (hmP hm)) rfl qw_cellMany qs_cellMany ql_83 (by decide +kernel) rfl (by decide) (by decide) hl.1 (by show 1 + 0 ≤ 8; decide) d50 (fun v H' L hq hL => ?_)
      obtain ⟨rfl, hHe⟩ := hq
      have hHe := hHe.symm
      subst hHe
      rw [hn]
      have hm := hmL hm hL
      refine lv_icmp_lt (tgt := 62) hexec hb d53 rfl (fun hlt => ?_) (fun hnl => ?_)
      case _ =>
        have hlt := (c_slt (by omega) (by omega)).mp hlt
        -- one further
        have hA1 : ∀ i, i ≤ dp → cU A dp (A dp + 1) i ≤ n := fun i hi => by
          by_cases e0 : i = dp
          · subst e0
            rw [cU_same]
            omega
          · rw [cU_ne e0]
            exact hA i hi
        have hsA1 : sA D cA cb (cU A dp (A dp + 1)) dp H1 := fun V hV i hi => by
          rw [kcell_uniq hV hc1 (show i < 20 by omega)]
          by_cases e0 : i = dp
          · subst e0
            rw [updV_same, cU_same, c_s1]
          · rw [hs48 i hi e0, cU_ne e0]
        have again : ∀ (locs : List Loc) (ls : Array Slot), (¬ mn = n) → kmov D cA k_tt Ty lo [(48, none), (49, none)] s.heap H1 locs → lv_has ls 6 [(0, .ref r), (1, .int (Int32.ofNat mn)), (2, .int mo), (3, .int al), (4, .int (Int32.ofNat dp))] → hOwe p l e lo 1 (canQ D cA Ty lo (mn = n)) s m ([.ref r, .int (Int32.ofNat mn), .int mo] : List Value).toArray below meth c H1 locs 26 ls [] := fun locs ls hne hm hl => ih dp (cU A dp (A dp + 1)) H1 locs ls (by have := (mu_inc hlt rfl).1; omega) hdp hA1 hm hsA1 (fun e0 => absurd e0 hne) hl
        obtain ⟨-, V49, hV49, hv49⟩ := hm.1.1 cr 49 _ hcr kt49
        obtain ⟨re, e49, -⟩ := hv49.1 (0, 1, 21, kt_any) (List.mem_of_getElem? (i := 0) rfl) dp (show dp < 21 by omega)
        have e49 : V49 dp = .int re := by
          have : 0 + 1 * dp = dp := by omega
          rw [← this]; exact e49
        obtain ⟨V47, x, hV47, e47, x1, x2⟩ := hmF (A dp) hm hlt
        refine lv_aload_n hexec hb d62 rfl (lv_at hl 0 rfl) ?_
        refine h_get (T := kt_36) (ow := ow_c55) (idx := 55) (j := 30) (tc := 3) hexec hb hts k_clok hown hK wf_c55 (by decide) rfl (by decide) c1 d63 ?_
        rw [e30]
        refine lv_iload hexec hb d66 (lv_at hl 4 rfl) ?_
        refine r_ald (T := kt_49) (ty := .int) (z := dp) hexec hb hK rfl rfl rfl (c_ofn (by omega)) (show dp < 21 by omega) hV49 d68 ?_
        rw [e49]
        refine lv_aload_n hexec hb d69 rfl (lv_at hl 0 rfl) ?_
        refine h_get (T := kt_36) (ow := ow_SilenceMatchModel) (idx := 49) (j := 28) (tc := 3) hexec hb hts k_clok hown hK wf_SilenceMatchModel (by decide) rfl (by decide) c1 d70 ?_
        rw [e28]
        refine lv_aload_n hexec hb d73 rfl (lv_at hl 0 rfl) ?_
        refine h_get (T := kt_36) (ow := ow_SilenceMatchModel) (idx := 52) (j := 29) (tc := 3) hexec hb hts k_clok hown hK wf_SilenceMatchModel (by decide) rfl (by decide) c1 d74 ?_
        rw [e29]
        refine lv_iload hexec hb d77 (lv_at hl 4 rfl) ?_
        refine r_ald (T := kt_48) (ty := .int) (z := dp) hexec hb hK rfl rfl rfl (c_ofn (by omega)) (show dp < 20 by omega) hc1 d79 ?_
        rw [updV_same]
        refine r_ald (T := kt_47) (ty := .int) (z := A dp) hexec hb hK rfl rfl rfl (c_ofn (by omega)) (show A dp < 20 by omega) hV47 d80 ?_
        rw [e47]
        refine lv_ior hexec hb d81 ?_
        -- what the try that must succeed has reached now
        have hK2 : mn = n → (∀ t, t < 32 → bt (re ||| x) t = true → t < n) ∧ ∀ t, t < dp + 1 → bt (re ||| x) t = true := fun e0 => by
          obtain ⟨k1, k2⟩ := hsK1 e0
          obtain ⟨re', k3, k4, k5⟩ := k2 V49 hV49
          rw [e49] at k3
          injection k3 with k3
          subst k3
          rw [k1] at x2
          refine ⟨fun t ht hbt => ?_, fun t ht => ?_⟩
          · rw [bt_or] at hbt
            cases hq : bt re t with
            | true => exact k4 t ht hq
            | false =>
              rw [hq, Bool.false_or] at hbt
              exact x1 t ht hbt
          · rw [bt_or]
            by_cases e2 : t = dp
            · subst e2
              rw [x2, Bool.or_true]
            · rw [k5 t (by omega), Bool.true_or]
        generalize re ||| x = nx at hK2
        refine lv_istore hexec hb d82 hl (by decide) rfl (fun ls1 hl1 => ?_)
        have hl : lv_has ls1 6 [(0, .ref r), (1, .int (Int32.ofNat mn)), (2, .int mo), (3, .int al), (4, .int (Int32.ofNat dp)), (5, .int nx)] := lv_sub hl1 [1, 2, 3, 4, 5, 0] rfl
        have hl5 : lv_has ls1 6 [(0, .ref r), (1, .int (Int32.ofNat mn)), (2, .int mo), (3, .int al), (4, .int (Int32.ofNat dp))] := lv_sub hl1 [1, 2, 3, 4, 5] rfl
        have hpr : Int32.ofNat mn - 1 = Int32.ofNat (mn - 1) := by
          obtain ⟨k, rfl⟩ : ∃ k, mn = k + 1 := ⟨mn - 1, by omega⟩
          exact c_s1
        have at100 : (mn = n → ¬ dp = mn - 1) → hOwe p l e lo 1 (canQ D cA Ty lo (mn = n)) s m ([.ref r, .int (Int32.ofNat mn), .int mo] : List Value).toArray below meth c H1 (locs ++ [⟨cb, q0⟩] ++ L) 100 ls1 [] := by
          intro hnd
          refine lv_iload hexec hb d100 (lv_at hl 4 rfl) ?_
          refine lv_iload_n hexec hb d102 rfl (lv_at hl 1 rfl) ?_
          refine lv_iconst (v := 1) hexec hb d103 rfl ?_
          refine lv_isub hexec hb d104 ?_
          rw [hpr]
          refine lv_icmp_eq (tgt := 26) hexec hb d105 rfl (fun he => ?_) (fun hne => ?_)
          case _ =>
            have he := (c_eq (by omega) (by omega)).mp he
            exact again _ ls1 (fun e0 => hnd e0 he) hm hl5
          case _ =>
            have hne : ¬ dp = mn - 1 := fun e0 => hne ((c_eq (by omega) (by omega)).mpr e0)
            refine lv_iload_n hexec hb d108 rfl (lv_at hl 3 rfl) ?_
            refine lv_iload hexec hb d109 (lv_at hl 5 rfl) ?_
            refine lv_iconst (v := -1) hexec hb d111 rfl ?_
            refine lv_ixor hexec hb d112 ?_
            refine lv_iand hexec hb d113 ?_
            refine h_callS (lo := lo) (As := [.int (al &&& (nx ^^^ -1))]) (rest := []) (n := 1) (d' := 0) (P := fun _ => True) hexec hb hml hown hts hK qm_bits trivial qw_bits qs_bits ql_373 (by decide) (by decide +kernel) rfl (by decide) (by decide) hl.1 (by decide) d114 (fun v H' L2 hq hL2 => ?_)
            obtain ⟨rfl, hHe⟩ := hq
            have hHe := hHe.symm
            subst hHe
            have hm := hmL hm hL2
            refine lv_iload_n hexec hb d117 rfl (lv_at hl 2 rfl) ?_
            refine lv_iload_n hexec hb d118 rfl (lv_at hl 1 rfl) ?_
            refine lv_iconst (v := 1) hexec hb d119 rfl ?_
            refine lv_isub hexec hb d120 ?_
            rw [hpr]
            refine lv_iload hexec hb d121 (lv_at hl 4 rfl) ?_
            refine lv_isub hexec hb d123 ?_
            rw [c_sub (by omega) (by omega)]
            refine lv_imul hexec hb d124 ?_
            refine lv_icmp_le (tgt := 131) hexec hb d125 rfl (fun hle => ?_) (fun hnle => ?_)
            case _ =>
              refine lv_iinc (k := 4) hexec hb d131 hl rfl rfl (by decide) rfl (fun ls2 hl2 => ?_)
              rw [c_inc] at hl2
              have hl : lv_has ls2 6 [(0, .ref r), (1, .int (Int32.ofNat mn)), (2, .int mo), (3, .int al), (4, .int (Int32.ofNat (dp + 1))), (5, .int nx)] := lv_sub hl2 [1, 2, 3, 4, 0, 5] rfl
              have hl5 : lv_has ls2 6 [(0, .ref r), (1, .int (Int32.ofNat mn)), (2, .int mo), (3, .int al), (4, .int (Int32.ofNat (dp + 1)))] := lv_sub hl2 [1, 2, 3, 4, 0] rfl
              refine lv_aload_n hexec hb d134 rfl (lv_at hl 0 rfl) ?_
              refine h_get (T := kt_36) (ow := ow_c55) (idx := 55) (j := 30) (tc := 3) hexec hb hts k_clok hown hK wf_c55 (by decide) rfl (by decide) c1 d135 ?_
              rw [e30]
              refine lv_iload hexec hb d138 (lv_at hl 4 rfl) ?_
              refine lv_iload hexec hb d140 (lv_at hl 5 rfl) ?_
              refine r_ast (T := kt_49) (ty := .int) (z := dp + 1) (v := .int nx) hexec hb hK rfl rfl rfl trivial (c_ofn (by omega)) (show dp + 1 < 21 by omega) hV49 d142 (fun H2 q2 hc2 hs2 ho2 => ?_)
              have hmB := h49 (i := q2) hm hv49 hc2 hs2 ho2
              have hc1b : kcell D cA kt_48 cb H2 (updV V48 dp (.int (Int32.ofNat (A dp)))) := kcell_kept hc1 (ho2 cb hbr)
              clear c1 e1 e28 e29 e30 c2 f0 f1
              obtain ⟨V36, W37, c1, e1, e28, e29, e30, c2, f0, f1⟩ := id (hmP hmB)
              refine lv_aload_n hexec hb d143 rfl (lv_at hl 0 rfl) ?_
              refine h_get (T := kt_36) (ow := ow_SilenceMatchModel) (idx := 52) (j := 29) (tc := 3) hexec hb hts k_clok hown hK wf_SilenceMatchModel (by decide) rfl (by decide) c1 d144 ?_
              rw [e29]
              refine lv_iload hexec hb d147 (lv_at hl 4 rfl) ?_
              refine lv_aload_n hexec hb d149 rfl (lv_at hl 0 rfl) ?_
              refine h_get (T := kt_36) (ow := ow_SilenceMatchModel) (idx := 52) (j := 29) (tc := 3) hexec hb hts k_clok hown hK wf_SilenceMatchModel (by decide) rfl (by decide) c1 d150 ?_
              rw [e29]
              refine lv_iload hexec hb d153 (lv_at hl 4 rfl) ?_
              refine lv_iconst (v := 1) hexec hb d155 rfl ?_
              refine lv_isub hexec hb d156 ?_
              rw [c_s1]
              refine r_ald (T := kt_48) (ty := .int) (z := dp) hexec hb hK rfl rfl rfl (c_ofn (by omega)) (show dp < 20 by omega) hc1b d157 ?_
              rw [updV_same]
              obtain ⟨-, V48b, hV48b, hv48b⟩ := hmB.1.1 cb 48 _ hcb kt48
              refine r_ast (T := kt_48) (ty := .int) (z := dp + 1) (v := .int (Int32.ofNat (A dp))) hexec hb hK rfl rfl rfl trivial (c_ofn (by omega)) (show dp + 1 < 20 by omega) hV48b d158 (fun H3 q3 hc3 hs3 ho3 => ?_)
              have hmC := h48 (i := q3) hmB hv48b hc3 hs3 ho3
              refine lv_goto (tgt := 26) hexec hb d159 rfl ?_
              refine ih (dp + 1) (cU (cU A dp (A dp + 1)) (dp + 1) (A dp + 1)) H3 _ ls2 ?_ (by omega) (fun i hi => ?_) hmC (fun V hV i hi => ?_) (fun e0 => ⟨?_, fun V hV => ?_⟩) hl5
              · have := (mu_inc hlt rfl).2
                unfold mu
                rw [cU_same, mu_congr (d := dp) (A := cU (cU A dp (A dp + 1)) (dp + 1) (A dp + 1)) (B := cU A dp (A dp + 1)) (fun i hi => cU_ne (by omega))]
                omega
              · by_cases e2 : i = dp + 1
                · subst e2
                  rw [cU_same]
                  omega
                · rw [cU_ne e2]
                  exact hA1 i (by omega)
              · rw [kcell_uniq hV hc3 (show i < 20 by omega)]
                by_cases e2 : i = dp + 1
                · subst e2
                  rw [updV_same, cU_same, c_s1]
                · rw [updV_ne e2, cU_ne e2, kcell_uniq hV48b hc1b (show i < 20 by omega), ← kcell_uniq hc1 hc1 (show i < 20 by omega)]
                  exact hsA1 _ hc1 i (by omega)
              · rw [cU_same, (hsK1 e0).1]
              · have hV2 : kcell D cA kt_49 cr H2 V := kcell_kept hV (ho3 cr (Ne.symm hbr)).symm
                exact ⟨nx, by rw [kcell_uniq hV2 hc2 (show dp + 1 < 21 by omega), updV_same], (hK2 e0).1, (hK2 e0).2⟩
            case _ =>
              refine lv_goto (tgt := 26) hexec hb d128 rfl ?_
              refine again _ ls1 (fun e0 => hnle ?_) hm hl5
              obtain ⟨k1, k2⟩ := hK2 e0
              have hcn := cnt_in (x := al &&& (nx ^^^ -1)) (a := dp + 1) (b := n) (fun t ht hbt => by
                rw [bt_and, bt_xor, bt_m1 t ht, hal t ht] at hbt
                have hb1 := of_decide_eq_true (Bool.and_eq_true_iff.mp hbt).1
                refine ⟨?_, hb1⟩
                rcases Nat.lt_or_ge t (dp + 1) with hl9 | hl9
                · rw [k2 t hl9] at hbt
                  simp at hbt
                · exact hl9) 20 (by decide)
              have hcn2 : cnt (al &&& (nx ^^^ -1)) 20 ≤ n - (dp + 1) := by
                split at hcn <;> omega
              rw [Int32.le_iff_toInt_le, c_ofn (by omega), Int32.toInt_mul, c_ofn (by omega)]
              have hj : ((mn - 1 - dp : Nat) : Int) * 1 ≤ mo.toInt * ((mn - 1 - dp : Nat) : Int) := by
                rw [Int.mul_comm mo.toInt]
                exact Int.mul_le_mul_of_nonneg_left hmo1 (by omega)
              have hj2 : mo.toInt * ((mn - 1 - dp : Nat) : Int) ≤ 20 * ((mn - 1 - dp : Nat) : Int) := Int.mul_le_mul_of_nonneg_right hmo2 (by omega)
              rw [k32_bm (by show (-2147483648 : Int) ≤ _; omega) (by show _ ≤ (2147483647 : Int); omega)]
              omega
        refine lv_iload hexec hb d84 (lv_at hl 5 rfl) ?_
        refine lv_iload_n hexec hb d86 rfl (lv_at hl 3 rfl) ?_
        refine lv_icmp_ne (tgt := 100) hexec hb d87 rfl (fun hne => ?_) (fun heq => ?_)
        case _ =>
          refine at100 (fun e0 hd => hne (bt_ext (fun t ht => ?_)))
          obtain ⟨k1, k2⟩ := hK2 e0
          rw [hal t ht]
          rcases Nat.lt_or_ge t n with hl9 | hl9
          · rw [k2 t (by omega), decide_eq_true hl9]
          · rw [decide_eq_false (by omega)]
            cases hq : bt nx t with
            | false => rfl
            | true => exact absurd (k1 t ht hq) (by omega)
        case _ =>
          refine lv_iload hexec hb d90 (lv_at hl 4 rfl) ?_
          refine lv_iload_n hexec hb d92 rfl (lv_at hl 1 rfl) ?_
          refine lv_iconst (v := 1) hexec hb d93 rfl ?_
          refine lv_isub hexec hb d94 ?_
          rw [hpr]
          refine lv_icmp_ne (tgt := 100) hexec hb d95 rfl (fun hne => at100 (fun e0 hd => hne ((c_eq (by omega) (by omega)).mpr hd))) (fun heq2 => ?_)
          refine lv_iconst (v := 1) hexec hb d98 rfl ?_
          exact fin true H1 _ ls1 99 (fun _ => rfl) hm d99
      case _ =>
        have hnl : ¬ A dp < n := fun hh => hnl ((c_slt (by omega) (by omega)).mpr hh)
        have hno : ¬ mn = n := fun e0 => by
          have := (hsK1 e0).1
          omega
        refine lv_iinc (k := 4) hexec hb d56 hl rfl rfl (by decide) rfl (fun ls1 hl1 => ?_)
        refine lv_goto (tgt := 26) hexec hb d59 rfl ?_
        cases dp with
        | zero =>
          refine lv_iload hexec hb d26 (lv_at hl1 0 rfl) ?_
          refine lv_if_lt (tgt := 162) hexec hb d28 rfl (fun _ => ?_) (fun hh => absurd (by decide) hh)
          refine lv_iconst (v := 0) hexec hb d162 rfl ?_
          exact fin false H1 _ ls1 163 (fun e0 => absurd e0 hno) hm d163
        | succ d =>
          have e4 : Int32.ofNat (d + 1) + Int32.ofInt (-1) = Int32.ofNat d := by
            rw [← c_s1 (k := d), Int32.sub_eq_add_neg]
            rfl
          rw [e4] at hl1
          refine ih d A H1 _ ls1 (by have := mu_pop (n := n) (d := d) (A := A) hAd; omega) (by omega) (fun i hi => hA i (by omega)) hm (fun V hV i hi => ?_) (fun e0 => absurd e0 hno) (lv_sub hl1 [1, 2, 3, 4, 0] rfl)
          rw [kcell_uniq hV hc1 (show i < 20 by omega)]
          exact hs48 i (by omega) (by omega)
  have hm : kmov D cA k_tt Ty lo [(48, none), (49, none)] s.heap s.heap [] := ⟨hP.1, kfr_rfl, kkp_rfl, fun q hq => by cases hq⟩
  obtain ⟨V36, W37, c1, e1, e28, e29, e30, c2, f0, f1⟩ := id (hmP hm)
  refine lv_iconst (v := 1) hexec hb d0 rfl ?_
  refine lv_aload_n hexec hb d1 rfl (lv_at hlv 0 rfl) ?_
  refine h_callV (lo := lo) (As := []) (n := 0) (d' := 0) (P := cP D cA r w w0 w1) hexec hb hml hown hts hK c1 qm_cellMany (cP3_P (hmP hm)) rfl qw_cellMany qs_cellMany ql_83 (by decide +kernel) rfl (by decide) (by decide) hlv.1 (by show 1 + 0 ≤ 8; decide) d2 (fun v H' L hq hL => ?_)
  obtain ⟨rfl, hHe⟩ := hq
  have hHe := hHe.symm
  subst hHe
  rw [hn]
  have hm := hmL hm hL
  refine lv_ishl hexec hb d5 ?_
  refine lv_iconst (v := 1) hexec hb d6 rfl ?_
  refine lv_isub hexec hb d7 ?_
  rw [hale]
  refine lv_istore_n hexec hb d8 rfl hlv (by decide) rfl (fun ls1 hl1 => ?_)
  refine lv_iconst (v := 0) hexec hb d9 rfl ?_
  refine lv_istore hexec hb d10 hl1 (by decide) rfl (fun ls2 hl2 => ?_)
  have hl : lv_has ls2 6 [(0, .ref r), (1, .int (Int32.ofNat mn)), (2, .int mo), (3, .int al), (4, .int (Int32.ofNat 0))] := lv_sub hl2 [2, 3, 4, 1, 0] rfl
  refine lv_aload_n hexec hb d12 rfl (lv_at hl 0 rfl) ?_
  refine h_get (T := kt_36) (ow := ow_c55) (idx := 55) (j := 30) (tc := 3) hexec hb hts k_clok hown hK wf_c55 (by decide) rfl (by decide) c1 d13 ?_
  rw [e30]
  refine lv_iconst (v := 0) hexec hb d16 rfl ?_
  refine lv_iconst (v := 0) hexec hb d17 rfl ?_
  obtain ⟨-, V49, hV49, hv49⟩ := hm.1.1 cr 49 _ hcr kt49
  refine r_ast (T := kt_49) (ty := .int) (z := 0) (v := .int 0) hexec hb hK rfl rfl rfl trivial rfl (show 0 < 21 by decide) hV49 d18 (fun H1 q1 hc1 hs1 ho1 => ?_)
  have hm := h49 (i := q1) hm hv49 hc1 hs1 ho1
  clear c1 e1 e28 e29 e30 c2 f0 f1
  obtain ⟨V36, W37, c1, e1, e28, e29, e30, c2, f0, f1⟩ := id (hmP hm)
  refine lv_aload_n hexec hb d19 rfl (lv_at hl 0 rfl) ?_
  refine h_get (T := kt_36) (ow := ow_SilenceMatchModel) (idx := 52) (j := 29) (tc := 3) hexec hb hts k_clok hown hK wf_SilenceMatchModel (by decide) rfl (by decide) c1 d20 ?_
  rw [e29]
  refine lv_iconst (v := 0) hexec hb d23 rfl ?_
  refine lv_iconst (v := -1) hexec hb d24 rfl ?_
  obtain ⟨-, V48, hV48, hv48⟩ := hm.1.1 cb 48 _ hcb kt48
  refine r_ast (T := kt_48) (ty := .int) (z := 0) (v := .int (-1)) hexec hb hK rfl rfl rfl trivial rfl (show 0 < 20 by decide) hV48 d25 (fun H2 q2 hc2 hs2 ho2 => ?_)
  have hm := h48 (i := q2) hm hv48 hc2 hs2 ho2
  refine loop _ 0 (fun _ => 0) H2 _ ls2 (Nat.lt_succ_self _) (by omega) (fun i hi => Nat.zero_le _) hm (fun V hV i hi => ?_) (fun _ => ⟨rfl, fun V hV => ?_⟩) hl
  · obtain rfl : i = 0 := by omega
    rw [kcell_uniq hV hc2 (show 0 < 20 by decide), updV_same]
    rfl
  · have hV2 : kcell D cA kt_49 cr H1 V := kcell_kept hV (ho2 cr (Ne.symm hbr)).symm
    exact ⟨0, by rw [kcell_uniq hV2 hc1 (show 0 < 21 by decide), updV_same], (fun t ht hbt => by rw [bt_0] at hbt; cases hbt), (fun t ht => by omega)⟩

end HCAN
