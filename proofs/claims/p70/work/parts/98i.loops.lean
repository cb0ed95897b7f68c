/-! the three loops -/
def kt_36 : kT := (k_tt[36]?).getD (0, 0, [], [])
theorem kt36 : k_tt[36]? = some kt_36 := rfl
section HLOOP
variable {p : Program} {l : Launch} {e : Env} {R : Room} {s : State} {m : MethodId} {args : Array Value} {below : List Frame} {meth : Method} {c : Code} {H0 : Heap} {Q : State → Prop}
variable {D : va_G} {cA aS : Nat → Nat} {Ty : Nat → Nat → Prop} {lo : Nat}
theorem any_int {T : kT} {V : Nat → Value} {N j : Nat} (hv : kvals Ty T V) (hr : (0, 1, N, kt_any) ∈ T.2.2.1) (hj : j < N) : ∃ n, V j = .int n := by
  obtain ⟨n, e, -⟩ := hv.1 _ hr j hj
  rw [Nat.zero_add, Nat.one_mul] at e
  exact ⟨n, e⟩
set_option maxHeartbeats 4000000 in
theorem img_loop {cc : ByteArray} {a w d : Nat} {V Vs Vd : Nat → Value} {kk : Int32} {K : Nat} (hexec : p.tables.exec = Jvm.exec) (hb : c.code = cc) (hts : ∀ w ∈ k_lg, w.before args s = true) (hown : s.vm.findClass "SilenceMatchModel" = some m.cls) (hK : kK k_cl k_aty k_ns k_sk D cA aS s) (dc : ∀ q ∈ cd_X10_image, decode cc q.1 = .ok (q.2.1, q.2.2)) (hkk : kk.toInt = (K : Int)) (hK3 : K < 3) (had : a ≠ d) (hwd : w ≠ d) (hlo : lo ≤ d) (hVs : V 1 = .ref w) (hVd : V 2 = .ref d) (hint : ∀ j, j < 115 → ∃ n, Vs j = .int n)
    (kk0 : ∀ (i : Int32) (ls : Array Slot) (H : Heap) (locs : List Loc), i.toInt = 115 → lv_has ls 3 [(0, .ref a), (1, .int kk), (2, .int i)] → kcell D cA kt_36 a H V → kcell D cA kt_37 w H Vs → kcell D cA kt_38 d H (cpv Vs Vd 0 (115 * K) 115) → (∀ q, q ≠ d → H[q]? = H0[q]?) → H.size = H0.size → (∀ q ∈ locs, lo ≤ q.base) → W p l e R s m args below meth c H locs 0 0 Q (F0 m 46 ls [])) :
    ∀ (f k : Nat) (i : Int32) (ls : Array Slot) (H : Heap) (locs : List Loc), k + f = 115 → i.toInt = (k : Int) → lv_has ls 3 [(0, .ref a), (1, .int kk), (2, .int i)] → kcell D cA kt_36 a H V → kcell D cA kt_37 w H Vs → kcell D cA kt_38 d H (cpv Vs Vd 0 (115 * K) k) → (∀ q, q ≠ d → H[q]? = H0[q]?) → H.size = H0.size → (∀ q ∈ locs, lo ≤ q.base) → W p l e R s m args below meth c H locs 0 0 Q (F0 m 17 ls []) := by
  have d17 := dc _ (List.mem_of_getElem? (i := 10) rfl)
  have d18 := dc _ (List.mem_of_getElem? (i := 11) rfl)
  have d20 := dc _ (List.mem_of_getElem? (i := 12) rfl)
  have d23 := dc _ (List.mem_of_getElem? (i := 13) rfl)
  have d24 := dc _ (List.mem_of_getElem? (i := 14) rfl)
  have d27 := dc _ (List.mem_of_getElem? (i := 15) rfl)
  have d29 := dc _ (List.mem_of_getElem? (i := 16) rfl)
  have d30 := dc _ (List.mem_of_getElem? (i := 17) rfl)
  have d31 := dc _ (List.mem_of_getElem? (i := 18) rfl)
  have d32 := dc _ (List.mem_of_getElem? (i := 19) rfl)
  have d33 := dc _ (List.mem_of_getElem? (i := 20) rfl)
  have d34 := dc _ (List.mem_of_getElem? (i := 21) rfl)
  have d37 := dc _ (List.mem_of_getElem? (i := 22) rfl)
  have d38 := dc _ (List.mem_of_getElem? (i := 23) rfl)
  have d39 := dc _ (List.mem_of_getElem? (i := 24) rfl)
  have d40 := dc _ (List.mem_of_getElem? (i := 25) rfl)
  have d43 := dc _ (List.mem_of_getElem? (i := 26) rfl)
  dsimp only at d17 d18 d20 d23 d24 d27 d29 d30 d31 d32 d33 d34 d37 d38 d39 d40 d43
  intro f
  induction f with
  | zero =>
    intro k i ls H locs hk hi hl h36 hs hd ho hz hlc
    have ek : k = 115 := by omega
    subst ek
    refine lv_iload_n hexec hb d17 rfl (lv_at hl 2 rfl) ?_
    refine lv_bipush (v := 115) hexec hb d18 (by decide) ?_
    exact lv_icmp_ge (tgt := 46) hexec hb d20 rfl (fun _ => kk0 i ls H locs hi hl h36 hs hd ho hz hlc) (fun hn => absurd (Int32.le_iff_toInt_le.mpr (by rw [hi]; decide)) hn)
  | succ f ih =>
    intro k i ls H locs hk hi hl h36 hs hd ho hz hlc
    have hk115 : k < 115 := by omega
    refine lv_iload_n hexec hb d17 rfl (lv_at hl 2 rfl) ?_
    refine lv_bipush (v := 115) hexec hb d18 (by decide) ?_
    refine lv_icmp_ge (tgt := 46) hexec hb d20 rfl (fun hge => absurd (Int32.le_iff_toInt_le.mp hge) (by rw [hi]; show ¬ ((115 : Int) ≤ _); omega)) (fun _ => ?_)
    have ex : (115 * kk + i).toInt = ((115 * K + k : Nat) : Int) := by
      have e1 : (115 * kk).toInt = 115 * (K : Int) := by
        rw [Int32.toInt_mul, show (115 : Int32).toInt = 115 from rfl, hkk, k32_bm (by show (-2147483648 : Int) ≤ _; omega) (by show _ ≤ (2147483647 : Int); omega)]
      rw [Int32.toInt_add, e1, hi, k32_bm (by show (-2147483648 : Int) ≤ _; omega) (by show _ ≤ (2147483647 : Int); omega)]
      omega
    refine lv_aload_n hexec hb d23 rfl (lv_at hl 0 rfl) ?_
    refine h_get (T := kt_36) (idx := 13) (j := 2) (tc := 3) hexec hb hts k_clok hown hK wf_SilenceMatchModel (by decide) rfl (by decide) h36 d24 ?_
    rw [hVd]
    refine lv_bipush (v := 115) hexec hb d27 (by decide) ?_
    refine lv_iload_n hexec hb d29 rfl (lv_at hl 1 rfl) ?_
    refine lv_imul hexec hb d30 ?_
    refine lv_iload_n hexec hb d31 rfl (lv_at hl 2 rfl) ?_
    refine lv_iadd hexec hb d32 ?_
    refine lv_aload_n hexec hb d33 rfl (lv_at hl 0 rfl) ?_
    refine h_get (T := kt_36) (idx := 9) (j := 1) (tc := 3) hexec hb hts k_clok hown hK wf_SilenceMatchModel (by decide) rfl (by decide) h36 d34 ?_
    rw [hVs]
    refine lv_iload_n hexec hb d37 rfl (lv_at hl 2 rfl) ?_
    refine r_ald (T := kt_37) (ty := .int) (z := k) hexec hb hK rfl rfl rfl hi hk115 hs d38 ?_
    obtain ⟨n, en⟩ := hint k hk115
    rw [en]
    refine r_ast (T := kt_38) (ty := .int) (z := 115 * K + k) hexec hb hK rfl rfl rfl (show kfix .int (.int n) from trivial) ex (show 115 * K + k < 345 by omega) hd d39 (fun H1 i1 hd1 s1 o1 => ?_)
    rw [← en, show Vs k = Vs (0 + k) by rw [Nat.zero_add], cpv_succ] at hd1
    refine lv_iinc (k := 2) hexec hb d40 hl rfl rfl (by decide) rfl (fun ls1 hl1 => ?_)
    refine lv_goto (tgt := 17) hexec hb d43 rfl ?_
    exact ih (k + 1) (i + Int32.ofInt 1) ls1 H1 _ (by omega) (by
        rw [Int32.toInt_add, hi, show (Int32.ofInt 1).toInt = 1 from rfl, k32_bm (by show (-2147483648 : Int) ≤ _; omega) (by show _ ≤ (2147483647 : Int); omega)]
        omega) (lv_sub hl1 [1, 2, 0] rfl) (kcell_kept h36 (o1 a had)) (kcell_kept hs (o1 w hwd)) hd1 (fun q hq => (o1 q hq).trans (ho q hq)) (s1.trans hz) (fun q hq => (List.mem_append.mp hq).elim (hlc q) (fun h => by
        have : q = ⟨d, i1⟩ := by simpa using h
        rw [this]; exact hlo))
set_option maxHeartbeats 4000000 in
theorem bck_loop {cc : ByteArray} {a w d : Nat} {V Vs Vd : Nat → Value} {kk : Int32} {K : Nat} (hexec : p.tables.exec = Jvm.exec) (hb : c.code = cc) (hts : ∀ w ∈ k_lg, w.before args s = true) (hown : s.vm.findClass "SilenceMatchModel" = some m.cls) (hK : kK k_cl k_aty k_ns k_sk D cA aS s) (dc : ∀ q ∈ cd_X10_back, decode cc q.1 = .ok (q.2.1, q.2.2)) (hkk : kk.toInt = (K : Int)) (hK3 : K < 3) (had : a ≠ d) (hwd : w ≠ d) (hlo : lo ≤ d) (hVs : V 2 = .ref w) (hVd : V 1 = .ref d) (hint : ∀ j, j < 345 → ∃ n, Vs j = .int n)
    (kk0 : ∀ (i : Int32) (ls : Array Slot) (H : Heap) (locs : List Loc), i.toInt = 115 → lv_has ls 3 [(0, .ref a), (1, .int kk), (2, .int i)] → kcell D cA kt_36 a H V → kcell D cA kt_38 w H Vs → kcell D cA kt_37 d H (cpv Vs Vd (115 * K) 0 115) → (∀ q, q ≠ d → H[q]? = H0[q]?) → H.size = H0.size → (∀ q ∈ locs, lo ≤ q.base) → W p l e R s m args below meth c H locs 0 0 Q (F0 m 58 ls [])) :
    ∀ (f k : Nat) (i : Int32) (ls : Array Slot) (H : Heap) (locs : List Loc), k + f = 115 → i.toInt = (k : Int) → lv_has ls 3 [(0, .ref a), (1, .int kk), (2, .int i)] → kcell D cA kt_36 a H V → kcell D cA kt_38 w H Vs → kcell D cA kt_37 d H (cpv Vs Vd (115 * K) 0 k) → (∀ q, q ≠ d → H[q]? = H0[q]?) → H.size = H0.size → (∀ q ∈ locs, lo ≤ q.base) → W p l e R s m args below meth c H locs 0 0 Q (F0 m 29 ls []) := by
  have d29 := dc _ (List.mem_of_getElem? (i := 17) rfl)
  have d30 := dc _ (List.mem_of_getElem? (i := 18) rfl)
  have d32 := dc _ (List.mem_of_getElem? (i := 19) rfl)
  have d35 := dc _ (List.mem_of_getElem? (i := 20) rfl)
  have d36 := dc _ (List.mem_of_getElem? (i := 21) rfl)
  have d39 := dc _ (List.mem_of_getElem? (i := 22) rfl)
  have d40 := dc _ (List.mem_of_getElem? (i := 23) rfl)
  have d41 := dc _ (List.mem_of_getElem? (i := 24) rfl)
  have d44 := dc _ (List.mem_of_getElem? (i := 25) rfl)
  have d46 := dc _ (List.mem_of_getElem? (i := 26) rfl)
  have d47 := dc _ (List.mem_of_getElem? (i := 27) rfl)
  have d48 := dc _ (List.mem_of_getElem? (i := 28) rfl)
  have d49 := dc _ (List.mem_of_getElem? (i := 29) rfl)
  have d50 := dc _ (List.mem_of_getElem? (i := 30) rfl)
  have d51 := dc _ (List.mem_of_getElem? (i := 31) rfl)
  have d52 := dc _ (List.mem_of_getElem? (i := 32) rfl)
  have d55 := dc _ (List.mem_of_getElem? (i := 33) rfl)
  dsimp only at d29 d30 d32 d35 d36 d39 d40 d41 d44 d46 d47 d48 d49 d50 d51 d52 d55
  intro f
  induction f with
  | zero =>
    intro k i ls H locs hk hi hl h36 hs hd ho hz hlc
    have ek : k = 115 := by omega
    subst ek
    refine lv_iload_n hexec hb d29 rfl (lv_at hl 2 rfl) ?_
    refine lv_bipush (v := 115) hexec hb d30 (by decide) ?_
    exact lv_icmp_ge (tgt := 58) hexec hb d32 rfl (fun _ => kk0 i ls H locs hi hl h36 hs hd ho hz hlc) (fun hn => absurd (Int32.le_iff_toInt_le.mpr (by rw [hi]; decide)) hn)
  | succ f ih =>
    intro k i ls H locs hk hi hl h36 hs hd ho hz hlc
    have hk115 : k < 115 := by omega
    refine lv_iload_n hexec hb d29 rfl (lv_at hl 2 rfl) ?_
    refine lv_bipush (v := 115) hexec hb d30 (by decide) ?_
    refine lv_icmp_ge (tgt := 58) hexec hb d32 rfl (fun hge => absurd (Int32.le_iff_toInt_le.mp hge) (by rw [hi]; show ¬ ((115 : Int) ≤ _); omega)) (fun _ => ?_)
    have ex : (115 * kk + i).toInt = ((115 * K + k : Nat) : Int) := by
      have e1 : (115 * kk).toInt = 115 * (K : Int) := by
        rw [Int32.toInt_mul, show (115 : Int32).toInt = 115 from rfl, hkk, k32_bm (by show (-2147483648 : Int) ≤ _; omega) (by show _ ≤ (2147483647 : Int); omega)]
      rw [Int32.toInt_add, e1, hi, k32_bm (by show (-2147483648 : Int) ≤ _; omega) (by show _ ≤ (2147483647 : Int); omega)]
      omega
    refine lv_aload_n hexec hb d35 rfl (lv_at hl 0 rfl) ?_
    refine h_get (T := kt_36) (idx := 9) (j := 1) (tc := 3) hexec hb hts k_clok hown hK wf_SilenceMatchModel (by decide) rfl (by decide) h36 d36 ?_
    rw [hVd]
    refine lv_iload_n hexec hb d39 rfl (lv_at hl 2 rfl) ?_
    refine lv_aload_n hexec hb d40 rfl (lv_at hl 0 rfl) ?_
    refine h_get (T := kt_36) (idx := 13) (j := 2) (tc := 3) hexec hb hts k_clok hown hK wf_SilenceMatchModel (by decide) rfl (by decide) h36 d41 ?_
    rw [hVs]
    refine lv_bipush (v := 115) hexec hb d44 (by decide) ?_
    refine lv_iload_n hexec hb d46 rfl (lv_at hl 1 rfl) ?_
    refine lv_imul hexec hb d47 ?_
    refine lv_iload_n hexec hb d48 rfl (lv_at hl 2 rfl) ?_
    refine lv_iadd hexec hb d49 ?_
    refine r_ald (T := kt_38) (ty := .int) (z := 115 * K + k) hexec hb hK rfl rfl rfl ex (show 115 * K + k < 345 by omega) hs d50 ?_
    obtain ⟨n, en⟩ := hint (115 * K + k) (by omega)
    rw [en]
    refine r_ast (T := kt_37) (ty := .int) (z := k) hexec hb hK rfl rfl rfl (show kfix .int (.int n) from trivial) hi hk115 hd d51 (fun H1 i1 hd1 s1 o1 => ?_)
    have hd1 : kcell D cA kt_37 d H1 (updV (cpv Vs Vd (115 * K) 0 k) (0 + k) (Vs (115 * K + k))) := by rw [Nat.zero_add, en]; exact hd1
    rw [cpv_succ] at hd1
    refine lv_iinc (k := 2) hexec hb d52 hl rfl rfl (by decide) rfl (fun ls1 hl1 => ?_)
    refine lv_goto (tgt := 29) hexec hb d55 rfl ?_
    exact ih (k + 1) (i + Int32.ofInt 1) ls1 H1 _ (by omega) (by
        rw [Int32.toInt_add, hi, show (Int32.ofInt 1).toInt = 1 from rfl, k32_bm (by show (-2147483648 : Int) ≤ _; omega) (by show _ ≤ (2147483647 : Int); omega)]
        omega) (lv_sub hl1 [1, 2, 0] rfl) (kcell_kept h36 (o1 a had)) (kcell_kept hs (o1 w hwd)) hd1 (fun q hq => (o1 q hq).trans (ho q hq)) (s1.trans hz) (fun q hq => (List.mem_append.mp hq).elim (hlc q) (fun h => by
        have : q = ⟨d, i1⟩ := by simpa using h
        rw [this]; exact hlo))
set_option maxHeartbeats 4000000 in
theorem grn_loop {cc : ByteArray} {a w d : Nat} {V Vs Vd : Nat → Value} (hexec : p.tables.exec = Jvm.exec) (hb : c.code = cc) (hts : ∀ w ∈ k_lg, w.before args s = true) (hown : s.vm.findClass "SilenceMatchModel" = some m.cls) (hK : kK k_cl k_aty k_ns k_sk D cA aS s) (dc : ∀ q ∈ cd_X10_green, decode cc q.1 = .ok (q.2.1, q.2.2)) (had : a ≠ d) (hwd : w ≠ d) (hlo : lo ≤ d) (hVs : V 14 = .ref w) (hVd : V 1 = .ref d) (hint : ∀ j, j < 115 → ∃ n, Vs j = .int n)
    (kk0 : ∀ (i : Int32) (ls : Array Slot) (H : Heap) (locs : List Loc), i.toInt = 115 → lv_has ls 2 [(0, .ref a), (1, .int i)] → kcell D cA kt_36 a H V → kcell D cA kt_42 w H Vs → kcell D cA kt_37 d H (cpv Vs Vd 0 0 115) → (∀ q, q ≠ d → H[q]? = H0[q]?) → H.size = H0.size → (∀ q ∈ locs, lo ≤ q.base) → W p l e R s m args below meth c H locs 0 0 Q (F0 m 110 ls [])) :
    ∀ (f k : Nat) (i : Int32) (ls : Array Slot) (H : Heap) (locs : List Loc), k + f = 115 → i.toInt = (k : Int) → lv_has ls 2 [(0, .ref a), (1, .int i)] → kcell D cA kt_36 a H V → kcell D cA kt_42 w H Vs → kcell D cA kt_37 d H (cpv Vs Vd 0 0 k) → (∀ q, q ≠ d → H[q]? = H0[q]?) → H.size = H0.size → (∀ q ∈ locs, lo ≤ q.base) → W p l e R s m args below meth c H locs 0 0 Q (F0 m 86 ls []) := by
  have d86 := dc _ (List.mem_of_getElem? (i := 46) rfl)
  have d87 := dc _ (List.mem_of_getElem? (i := 47) rfl)
  have d89 := dc _ (List.mem_of_getElem? (i := 48) rfl)
  have d92 := dc _ (List.mem_of_getElem? (i := 49) rfl)
  have d93 := dc _ (List.mem_of_getElem? (i := 50) rfl)
  have d96 := dc _ (List.mem_of_getElem? (i := 51) rfl)
  have d97 := dc _ (List.mem_of_getElem? (i := 52) rfl)
  have d98 := dc _ (List.mem_of_getElem? (i := 53) rfl)
  have d101 := dc _ (List.mem_of_getElem? (i := 54) rfl)
  have d102 := dc _ (List.mem_of_getElem? (i := 55) rfl)
  have d103 := dc _ (List.mem_of_getElem? (i := 56) rfl)
  have d104 := dc _ (List.mem_of_getElem? (i := 57) rfl)
  have d107 := dc _ (List.mem_of_getElem? (i := 58) rfl)
  dsimp only at d86 d87 d89 d92 d93 d96 d97 d98 d101 d102 d103 d104 d107
  intro f
  induction f with
  | zero =>
    intro k i ls H locs hk hi hl h36 hs hd ho hz hlc
    have ek : k = 115 := by omega
    subst ek
    refine lv_iload_n hexec hb d86 rfl (lv_at hl 1 rfl) ?_
    refine lv_bipush (v := 115) hexec hb d87 (by decide) ?_
    exact lv_icmp_ge (tgt := 110) hexec hb d89 rfl (fun _ => kk0 i ls H locs hi hl h36 hs hd ho hz hlc) (fun hn => absurd (Int32.le_iff_toInt_le.mpr (by rw [hi]; decide)) hn)
  | succ f ih =>
    intro k i ls H locs hk hi hl h36 hs hd ho hz hlc
    have hk115 : k < 115 := by omega
    refine lv_iload_n hexec hb d86 rfl (lv_at hl 1 rfl) ?_
    refine lv_bipush (v := 115) hexec hb d87 (by decide) ?_
    refine lv_icmp_ge (tgt := 110) hexec hb d89 rfl (fun hge => absurd (Int32.le_iff_toInt_le.mp hge) (by rw [hi]; show ¬ ((115 : Int) ≤ _); omega)) (fun _ => ?_)
    refine lv_aload_n hexec hb d92 rfl (lv_at hl 0 rfl) ?_
    refine h_get (T := kt_36) (idx := 9) (j := 1) (tc := 3) hexec hb hts k_clok hown hK wf_SilenceMatchModel (by decide) rfl (by decide) h36 d93 ?_
    rw [hVd]
    refine lv_iload_n hexec hb d96 rfl (lv_at hl 1 rfl) ?_
    refine lv_aload_n hexec hb d97 rfl (lv_at hl 0 rfl) ?_
    refine h_get (T := kt_36) (idx := 31) (j := 14) (tc := 3) hexec hb hts k_clok hown hK wf_SilenceMatchModel (by decide) rfl (by decide) h36 d98 ?_
    rw [hVs]
    refine lv_iload_n hexec hb d101 rfl (lv_at hl 1 rfl) ?_
    refine r_ald (T := kt_42) (ty := .int) (z := k) hexec hb hK rfl rfl rfl hi hk115 hs d102 ?_
    obtain ⟨n, en⟩ := hint k hk115
    rw [en]
    refine r_ast (T := kt_37) (ty := .int) (z := k) hexec hb hK rfl rfl rfl (show kfix .int (.int n) from trivial) hi hk115 hd d103 (fun H1 i1 hd1 s1 o1 => ?_)
    have hd1 : kcell D cA kt_37 d H1 (updV (cpv Vs Vd 0 0 k) (0 + k) (Vs (0 + k))) := by rw [Nat.zero_add, en]; exact hd1
    rw [cpv_succ] at hd1
    refine lv_iinc (k := 1) hexec hb d104 hl rfl rfl (by decide) rfl (fun ls1 hl1 => ?_)
    refine lv_goto (tgt := 86) hexec hb d107 rfl ?_
    exact ih (k + 1) (i + Int32.ofInt 1) ls1 H1 _ (by omega) (by
        rw [Int32.toInt_add, hi, show (Int32.ofInt 1).toInt = 1 from rfl, k32_bm (by show (-2147483648 : Int) ≤ _; omega) (by show _ ≤ (2147483647 : Int); omega)]
        omega) (lv_sub hl1 [1, 0] rfl) (kcell_kept h36 (o1 a had)) (kcell_kept hs (o1 w hwd)) hd1 (fun q hq => (o1 q hq).trans (ho q hq)) (s1.trans hz) (fun q hq => (List.mem_append.mp hq).elim (hlc q) (fun h => by
        have : q = ⟨d, i1⟩ := by simpa using h
        rw [this]; exact hlo))
end HLOOP
