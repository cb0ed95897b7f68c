/-! BY HAND: how many cover the green. Methods of known answers -/
def qy_bits : MethodName := ⟨"SilenceMatchModel", "bits", "(I)I"⟩
def qc_bits : kCd := [(0, .iconst 0, 1), (1, .istore_n 1, 1), (2, .iconst 0, 1), (3, .istore_n 2, 1), (4, .iload_n 2, 1), (5, .bipush 20, 2), (7, .if_icmp .ge 17, 3), (10, .iload_n 1, 1), (11, .iload_n 0, 1), (12, .iload_n 2, 1), (13, .ishr, 1), (14, .iconst 1, 1), (15, .iand, 1), (16, .iadd, 1), (17, .istore_n 1, 1), (18, .iinc 2 1, 3), (21, .goto (-17), 3), (24, .iload_n 1, 1), (25, .ireturn, 1)]
theorem qd_bits : ∀ q ∈ qc_bits, decode prog_12_method_4_code q.1 = .ok (q.2.1, q.2.2) := by decide +kernel
theorem qw_bits : Cond.code qy_bits prog_12_method_4_code 3 (some .int) ∈ k_lg ∧ Cond.initialized qy_bits.cls ∈ k_lg := ⟨kwd_ok (p := 1755) (by decide +kernel), kwd_ok (p := 109) (by decide +kernel)⟩
theorem qs_bits : Cond.static qy_bits ∈ k_lg := kwd_ok (p := 1754) (by decide +kernel)
def qy_cellMany : MethodName := ⟨"SilenceMatchModel", "cellMany", "()I"⟩
def qc_cellMany : kCd := [(0, .aload_n 0, 1), (1, .getfield 9, 3), (4, .iconst 0, 1), (5, .iaload, 1), (6, .aload_n 0, 1), (7, .getfield 9, 3), (10, .iconst 1, 1), (11, .iaload, 1), (12, .imul, 1), (13, .ireturn, 1)]
theorem qd_cellMany : ∀ q ∈ qc_cellMany, decode prog_12_method_9_code q.1 = .ok (q.2.1, q.2.2) := by decide +kernel
theorem qw_cellMany : Cond.code qy_cellMany prog_12_method_9_code 1 (some .int) ∈ k_lg ∧ Cond.initialized qy_cellMany.cls ∈ k_lg := ⟨kwd_ok (p := 1468) (by decide +kernel), kwd_ok (p := 109) (by decide +kernel)⟩
theorem qs_cellMany : Cond.instanceMethod qy_cellMany ∈ k_lg ∧ Cond.selects "SilenceMatchModel" qy_cellMany qy_cellMany ∈ k_lg := ⟨kwd_ok (p := 1467) (by decide +kernel), kwd_ok (p := 53) (by decide +kernel)⟩
def qy_farOf : MethodName := ⟨"SilenceMatchModel", "farOf", "(II)I"⟩
def qc_farOf : kCd := [(0, .iload_n 1, 1), (1, .aload_n 0, 1), (2, .getfield 9, 3), (5, .iconst 0, 1), (6, .iaload, 1), (7, .idiv, 1), (8, .iload_n 2, 1), (9, .aload_n 0, 1), (10, .getfield 9, 3), (13, .iconst 0, 1), (14, .iaload, 1), (15, .idiv, 1), (16, .isub, 1), (17, .invokestatic 215, 3), (20, .iload_n 1, 1), (21, .aload_n 0, 1), (22, .getfield 9, 3), (25, .iconst 0, 1), (26, .iaload, 1), (27, .irem, 1), (28, .iload_n 2, 1), (29, .aload_n 0, 1), (30, .getfield 9, 3), (33, .iconst 0, 1), (34, .iaload, 1), (35, .irem, 1), (36, .isub, 1), (37, .invokestatic 215, 3), (40, .iadd, 1), (41, .ireturn, 1)]
theorem qd_farOf : ∀ q ∈ qc_farOf, decode prog_12_method_33_code q.1 = .ok (q.2.1, q.2.2) := by decide +kernel
theorem qw_farOf : Cond.code qy_farOf prog_12_method_33_code 3 (some .int) ∈ k_lg ∧ Cond.initialized qy_farOf.cls ∈ k_lg := ⟨kwd_ok (p := 1472) (by decide +kernel), kwd_ok (p := 109) (by decide +kernel)⟩
theorem qs_farOf : Cond.instanceMethod qy_farOf ∈ k_lg ∧ Cond.selects "SilenceMatchModel" qy_farOf qy_farOf ∈ k_lg := ⟨kwd_ok (p := 1471) (by decide +kernel), kwd_ok (p := 54) (by decide +kernel)⟩
def qy_layCov : MethodName := ⟨"SilenceMatchModel", "layCovered", "(I)I"⟩
def qc_layCov : kCd := [(0, .iconst 0, 1), (1, .istore_n 2, 1), (2, .iconst 0, 1), (3, .istore_n 3, 1), (4, .iload_n 3, 1), (5, .aload_n 0, 1), (6, .invokevirtual 83, 3), (9, .if_icmp .ge 76, 3), (12, .aload_n 0, 1), (13, .getfield 49, 3), (16, .iload_n 3, 1), (17, .iconst 0, 1), (18, .iastore, 1), (19, .iconst 0, 1), (20, .istore 4, 2), (22, .iload 4, 2), (24, .aload_n 0, 1), (25, .invokevirtual 83, 3), (28, .if_icmp .ge 37, 3), (31, .aload_n 0, 1), (32, .getfield 49, 3), (35, .iload_n 3, 1), (36, .dup2, 1), (37, .iaload, 1), (38, .aload_n 0, 1), (39, .iload_n 3, 1), (40, .iload 4, 2), (42, .invokevirtual 218, 3), (45, .iload_n 1, 1), (46, .if_icmp .gt 10, 3), (49, .iconst 1, 1), (50, .iload 4, 2), (52, .ishl, 1), (53, .goto 4, 3), (56, .iconst 0, 1), (57, .ior, 1), (58, .iastore, 1), (59, .iinc 4 1, 3), (62, .goto (-40), 3), (65, .iload_n 2, 1), (66, .aload_n 0, 1), (67, .getfield 49, 3), (70, .iload_n 3, 1), (71, .iaload, 1), (72, .invokestatic 373, 3), (75, .invokestatic 344, 3), (78, .istore_n 2, 1), (79, .iinc 3 1, 3), (82, .goto (-78), 3), (85, .iload_n 2, 1), (86, .ireturn, 1)]
theorem qd_layCov : ∀ q ∈ qc_layCov, decode prog_12_method_94_code q.1 = .ok (q.2.1, q.2.2) := by decide +kernel
theorem qw_layCov : Cond.code qy_layCov prog_12_method_94_code 5 (some .int) ∈ k_lg ∧ Cond.initialized qy_layCov.cls ∈ k_lg := ⟨kwd_ok (p := 1752) (by decide +kernel), kwd_ok (p := 109) (by decide +kernel)⟩
theorem qs_layCov : Cond.instanceMethod qy_layCov ∈ k_lg ∧ Cond.selects "SilenceMatchModel" qy_layCov qy_layCov ∈ k_lg := ⟨kwd_ok (p := 1751) (by decide +kernel), kwd_ok (p := 87) (by decide +kernel)⟩
def qy_canCov : MethodName := ⟨"SilenceMatchModel", "canCover", "(II)Z"⟩
def qc_canCov : kCd := [(0, .iconst 1, 1), (1, .aload_n 0, 1), (2, .invokevirtual 83, 3), (5, .ishl, 1), (6, .iconst 1, 1), (7, .isub, 1), (8, .istore_n 3, 1), (9, .iconst 0, 1), (10, .istore 4, 2), (12, .aload_n 0, 1), (13, .getfield 55, 3), (16, .iconst 0, 1), (17, .iconst 0, 1), (18, .iastore, 1), (19, .aload_n 0, 1), (20, .getfield 52, 3), (23, .iconst 0, 1), (24, .iconst (-1), 1), (25, .iastore, 1), (26, .iload 4, 2), (28, .ifCond .lt 134, 3), (31, .aload_n 0, 1), (32, .getfield 52, 3), (35, .iload 4, 2), (37, .dup2, 1), (38, .iaload, 1), (39, .iconst 1, 1), (40, .iadd, 1), (41, .iastore, 1), (42, .aload_n 0, 1), (43, .getfield 52, 3), (46, .iload 4, 2), (48, .iaload, 1), (49, .aload_n 0, 1), (50, .invokevirtual 83, 3), (53, .if_icmp .lt 9, 3), (56, .iinc 4 (-1), 3), (59, .goto (-33), 3), (62, .aload_n 0, 1), (63, .getfield 55, 3), (66, .iload 4, 2), (68, .iaload, 1), (69, .aload_n 0, 1), (70, .getfield 49, 3), (73, .aload_n 0, 1), (74, .getfield 52, 3), (77, .iload 4, 2), (79, .iaload, 1), (80, .iaload, 1), (81, .ior, 1), (82, .istore 5, 2), (84, .iload 5, 2), (86, .iload_n 3, 1), (87, .if_icmp .ne 13, 3), (90, .iload 4, 2), (92, .iload_n 1, 1), (93, .iconst 1, 1), (94, .isub, 1), (95, .if_icmp .ne 5, 3), (98, .iconst 1, 1), (99, .ireturn, 1), (100, .iload 4, 2), (102, .iload_n 1, 1), (103, .iconst 1, 1), (104, .isub, 1), (105, .if_icmp .eq (-79), 3), (108, .iload_n 3, 1), (109, .iload 5, 2), (111, .iconst (-1), 1), (112, .ixor, 1), (113, .iand, 1), (114, .invokestatic 373, 3), (117, .iload_n 2, 1), (118, .iload_n 1, 1), (119, .iconst 1, 1), (120, .isub, 1), (121, .iload 4, 2), (123, .isub, 1), (124, .imul, 1), (125, .if_icmp .le 6, 3), (128, .goto (-102), 3), (131, .iinc 4 1, 3), (134, .aload_n 0, 1), (135, .getfield 55, 3), (138, .iload 4, 2), (140, .iload 5, 2), (142, .iastore, 1), (143, .aload_n 0, 1), (144, .getfield 52, 3), (147, .iload 4, 2), (149, .aload_n 0, 1), (150, .getfield 52, 3), (153, .iload 4, 2), (155, .iconst 1, 1), (156, .isub, 1), (157, .iaload, 1), (158, .iastore, 1), (159, .goto (-133), 3), (162, .iconst 0, 1), (163, .ireturn, 1)]
theorem qd_canCov : ∀ q ∈ qc_canCov, decode prog_12_method_95_code q.1 = .ok (q.2.1, q.2.2) := by decide +kernel
theorem qw_canCov : Cond.code qy_canCov prog_12_method_95_code 6 (some .boolean) ∈ k_lg ∧ Cond.initialized qy_canCov.cls ∈ k_lg := ⟨kwd_ok (p := 1759) (by decide +kernel), kwd_ok (p := 109) (by decide +kernel)⟩
theorem qs_canCov : Cond.instanceMethod qy_canCov ∈ k_lg ∧ Cond.selects "SilenceMatchModel" qy_canCov qy_canCov ∈ k_lg := ⟨kwd_ok (p := 1758) (by decide +kernel), kwd_ok (p := 88) (by decide +kernel)⟩
def qy_abs : MethodName := ⟨"java/lang/Math", "abs", "(I)I"⟩
def qc_abs : kCd := [(0, .iload_n 0, 1), (1, .ifCond .ge 8, 3), (4, .iload_n 0, 1), (5, .ineg, 1), (6, .goto 4, 3), (9, .iload_n 0, 1), (10, .ireturn, 1)]
theorem qd_abs : ∀ q ∈ qc_abs, decode prog_14_method_59_code q.1 = .ok (q.2.1, q.2.2) := by decide +kernel
theorem qw_abs : Cond.code qy_abs prog_14_method_59_code 1 (some .int) ∈ k_lg ∧ Cond.initialized qy_abs.cls ∈ k_lg := ⟨kwd_ok (p := 1475) (by decide +kernel), kwd_ok (p := 114) (by decide +kernel)⟩
theorem qs_abs : Cond.static qy_abs ∈ k_lg := kwd_ok (p := 1474) (by decide +kernel)
def qy_max : MethodName := ⟨"java/lang/Math", "max", "(II)I"⟩
def qc_max : kCd := [(0, .iload_n 0, 1), (1, .iload_n 1, 1), (2, .if_icmp .lt 7, 3), (5, .iload_n 0, 1), (6, .goto 4, 3), (9, .iload_n 1, 1), (10, .ireturn, 1)]
theorem qd_max : ∀ q ∈ qc_max, decode prog_14_method_65_code q.1 = .ok (q.2.1, q.2.2) := by decide +kernel
theorem qw_max : Cond.code qy_max prog_14_method_65_code 2 (some .int) ∈ k_lg ∧ Cond.initialized qy_max.cls ∈ k_lg := ⟨kwd_ok (p := 863) (by decide +kernel), kwd_ok (p := 114) (by decide +kernel)⟩
theorem qs_max : Cond.static qy_max ∈ k_lg := kwd_ok (p := 862) (by decide +kernel)
theorem ql_83 : Cond.methodLink "SilenceMatchModel" 83 qy_cellMany ∈ k_lg := kwd_ok (p := 1465) (by decide +kernel)
theorem ql_215 : Cond.methodLink "SilenceMatchModel" 215 qy_abs ∈ k_lg := kwd_ok (p := 1473) (by decide +kernel)
theorem ql_218 : Cond.methodLink "SilenceMatchModel" 218 qy_farOf ∈ k_lg := kwd_ok (p := 1469) (by decide +kernel)
theorem ql_373 : Cond.methodLink "SilenceMatchModel" 373 qy_bits ∈ k_lg := kwd_ok (p := 1753) (by decide +kernel)
theorem ql_344 : Cond.methodLink "SilenceMatchModel" 344 qy_max ∈ k_lg := kwd_ok (p := 1650) (by decide +kernel)
theorem ql_376 : Cond.methodLink "SilenceMatchModel" 376 qy_layCov ∈ k_lg := kwd_ok (p := 1749) (by decide +kernel)
theorem ql_379 : Cond.methodLink "SilenceMatchModel" 379 qy_canCov ∈ k_lg := kwd_ok (p := 1756) (by decide +kernel)
/-- bits -/
def bt (x : Int32) (i : Nat) : Bool := x.toBitVec.getLsbD i
theorem bt_or {x y : Int32} {i : Nat} : bt (x ||| y) i = (bt x i || bt y i) := by simp [bt]
theorem bt_and {x y : Int32} {i : Nat} : bt (x &&& y) i = (bt x i && bt y i) := by simp [bt]
theorem bt_xor {x y : Int32} {i : Nat} : bt (x ^^^ y) i = Bool.xor (bt x i) (bt y i) := by simp [bt]
theorem bt_m1 : ∀ i, i < 32 → bt (-1) i = true := by decide +kernel
theorem bt_0 {i : Nat} : bt 0 i = false := by simp [bt]
theorem bt_ext {x y : Int32} (h : ∀ i, i < 32 → bt x i = bt y i) : x = y := Int32.toBitVec_inj.mp (BitVec.eq_of_getLsbD_eq h)
theorem bt_one : ∀ k, k < 20 → ∀ i, i < 32 → bt ((1 : Int32) <<< (Int32.ofNat k &&& 31)) i = decide (i = k) := by decide +kernel
theorem bt_all : ∀ n, n < 21 → ∀ i, i < 32 → bt ((1 : Int32) <<< (Int32.ofNat n &&& 31) - 1) i = decide (i < n) := by decide +kernel
theorem bt_shk : ∀ k, k < 20 → ((Int32.ofNat k &&& 31).toBitVec.smod 32).toNat = k := by decide +kernel
theorem bt_1 : ∀ i, i < 32 → bt 1 i = decide (i = 0) := by decide +kernel
theorem bt_shr {x : Int32} {k : Nat} (hk : k < 20) : (x >>> (Int32.ofNat k &&& 31)) &&& 1 = if bt x k = true then 1 else 0 := by
  have h0 : bt (x >>> (Int32.ofNat k &&& 31)) 0 = bt x k := by
    unfold bt
    rw [Int32.toBitVec_shiftRight, BitVec.sshiftRight_eq', bt_shk k hk, BitVec.getLsbD_sshiftRight]
    have h1 : k + 0 < 32 := by omega
    simp [h1]
    intro h2
    omega
  apply bt_ext
  intro i hi
  rw [bt_and, bt_1 i hi]
  by_cases e : i = 0
  · subst e
    rw [h0]
    cases h : bt x k with
    | true => decide +kernel
    | false => decide +kernel
  · rw [decide_eq_false e, Bool.and_false]
    cases h : bt x k with
    | true => rw [if_pos rfl, bt_1 i hi, decide_eq_false e]
    | false => rw [if_neg (by decide), bt_0]
def cnt (x : Int32) : Nat → Nat
  | 0 => 0
  | n + 1 => cnt x n + (if bt x n = true then 1 else 0)
theorem cnt_le (x : Int32) : ∀ n, cnt x n ≤ n
  | 0 => Nat.le_refl _
  | n + 1 => by
    have := cnt_le x n
    unfold cnt
    split <;> omega
theorem cnt_in {x : Int32} {a b : Nat} (h : ∀ i, i < 32 → bt x i = true → a ≤ i ∧ i < b) : ∀ n, n ≤ 32 → cnt x n ≤ (if n ≤ b then n else b) - a
  | 0, _ => Nat.zero_le _
  | n + 1, hn => by
    have g := cnt_in h n (by omega)
    unfold cnt
    by_cases hb : bt x n = true
    · have := h n (by omega) hb
      rw [if_pos hb]
      split at g <;> split <;> omega
    · rw [if_neg hb]
      split at g <;> split <;> omega
theorem cnt_pos {x : Int32} {k : Nat} (h : bt x k = true) : ∀ n, k < n → 1 ≤ cnt x n
  | 0, hn => by omega
  | n + 1, hn => by
    unfold cnt
    by_cases e : k = n
    · subst e
      rw [if_pos h]
      omega
    · have := cnt_pos h n (by omega)
      omega
section HCOV
variable {l : Launch} {D : va_G} {cA aS adV : Nat → Nat} {Ty : Nat → Nat → Prop} {lo : Nat}
/-- a method by hand: what it finds, and what it leaves -/
def hMet (l : Launch) (D : va_G) (cA aS : Nat → Nat) (lo : Nat) (y : MethodName) (b : ByteArray) (mL : Nat) (r : Option FieldType) (d : Nat) (vs : List Value) (P : Heap → Prop) (Qh : Heap → Option Value → Heap → Prop) : Prop :=
  Met l y (Cond.code y b mL r :: k_lg) (krm d) (fun a U => a = vs.toArray ∧ kK k_cl k_aty k_ns k_sk D cA aS U ∧ P U.heap) (fun _ s oc t => ∃ v, oc = .returned v ∧ Qh s.heap v t.heap) 0 0 (fun q => lo ≤ q)
def hOwe (p : Program) (l : Launch) (e : Env) (lo d : Nat) (Qh : Heap → Option Value → Heap → Prop) (s : State) (m : MethodId) (args : Array Value) (below : List Frame) (meth : Method) (c : Code) (H : Heap) (locs : List Loc) (pc : Nat) (ls : Array Slot) (st : List Value) : Prop :=
  W p l e (krm d) s m args below meth c H locs 0 0 (MQ below (fun _ s oc t => ∃ v, oc = .returned v ∧ Qh s.heap v t.heap) args s 0 0 (fun q => lo ≤ q)) (F0 m pc ls st)
theorem hmk {y : MethodName} {b : ByteArray} {mL d : Nat} {r : Option FieldType} {vs : List Value} {P : Heap → Prop} {Qh : Heap → Option Value → Heap → Prop} (hy : plainFor y = true) (hsl : (lg_sl vs).length ≤ mL)
    (hand : ∀ (p : Program) (e : Env) (s : State) (m : MethodId) (below : List Frame) (meth : Method) (c : Code) (ls : Array Slot), kCtx p k_cl k_aty k_lg k_ns k_sk D cA aS (fun _ _ => True) y b mL r s m vs.toArray meth c → P s.heap → lv_has ls mL (lv_args 0 vs) → hOwe p l e lo d Qh s m vs.toArray below meth c s.heap [] 0 ls []) : hMet l D cA aS lo y b mL r d vs P Qh := by
  refine Met.ofWF (cc := b) (maxL := mL) (ret := r) hy rfl ?_
  intro p e s m args below meth c s₁ Bd hml hv
  obtain ⟨rfl, hK, hP⟩ := hv
  have hts : ∀ w ∈ k_lg, w.before vs.toArray s = true := fun w hw => atoms_spec (ws := Cond.code y b mL r :: k_lg) Bd.pre w (List.mem_cons_of_mem _ hw)
  have hown : s.vm.findClass y.cls = some m.cls := findClass_of_methodNamed Bd.named
  have hlv := lv_entry vs hsl
  show W p l e (krm d) s m vs.toArray below meth c s.heap [] 0 0 _ (entryFrame m vs.toArray mL)
  rw [lg_entry_eq]
  exact hand p e s m below meth c _ ⟨Bd.exec, Bd.bytes, hml, hown, hts, Bd.returns, Bd.notSynchronized, hK, trivial⟩ hP hlv
section HCC
variable {p : Program} {e : Env} {R : Room} {s : State} {m : MethodId} {args : Array Value} {below : List Frame} {meth : Method} {c : Code} {H : Heap} {locs : List Loc} {Q : State → Prop} {cc : ByteArray} {pc : Nat} {ls : Array Slot} {rest : List Value} {P : Heap → Prop} {Qh : Heap → Option Value → Heap → Prop}
theorem h_blind {vs : List Value} : FrameBlind (fun (a : Array Value) (U : State) => a = vs.toArray ∧ kK k_cl k_aty k_ns k_sk D cA aS U ∧ P U.heap) := fun a U g mk h => ⟨h.1, kK_call k_nsn h.2.1, h.2.2⟩
theorem h_callS {own : String} {y : MethodName} {b : ByteArray} {mL nL idx n d' : Nat} {r : Option FieldType} {As : List Value} (hexec : p.tables.exec = Jvm.exec) (hb : c.code = cc) (hml : c.maxLocals = nL) (hown : s.vm.findClass own = some m.cls) (hts : ∀ w ∈ k_lg, w.before args s = true) (hK : kK k_cl k_aty k_ns k_sk D cA aS s) (hM : hMet l D cA aS lo y b mL r d' As P Qh) (hP : P H) (hw : Cond.code y b mL r ∈ k_lg ∧ Cond.initialized y.cls ∈ k_lg) (hst : Cond.static y ∈ k_lg) (hlk : Cond.methodLink own idx y ∈ k_lg) (hne : y.cls ≠ "java/lang/invoke/MethodHandle" ∧ y.cls ≠ "java/lang/invoke/VarHandle") (hpar : (parseMethodDescriptor y.desc).map (fun d => d.parameters.length) = some n) (hn : As.length = n) (hfr : d' + 1 ≤ R.frames) (hlo : 8 + (mL + 11) + 40 * d' ≤ R.locals) (hls : ls.size = nL) (hr : (rest.map fun v => v.category).sum ≤ 8) (hd : decode cc pc = .ok (.invokestatic idx, 3))
    (kk : ∀ (v : Option Value) (H' : Heap) (L : List Loc), Qh H v H' → (∀ q ∈ L, lo ≤ q.base) → W p l e R s m args below meth c H' (locs ++ L) 0 0 Q (F0 m (pc + 3) ls (v.toList ++ rest))) : W p l e R s m args below meth c H locs 0 0 Q (F0 m pc ls (As.reverse ++ rest)) := by
  have hws : ∀ w ∈ (Cond.code y b mL r :: k_lg), ∀ (a' : Array Value) (U : State), s.WarmedH U.vm → w.before a' U = true := pay_in hts (fun w hw2 => by
    rcases List.mem_cons.mp hw2 with rfl | hw2
    · exact ⟨hw.1, good_of_word (k_lg_good _ hw.1)⟩
    · exact ⟨hw2, good_of_word (k_lg_good _ hw2)⟩)
  have hrun := va_runS (nL := nL) (n := n) (R := R) (cells := 0) (slots := 0) (locs := locs) (below := below) (e := e) (meth := meth) (H := H) (As := As) (rest := rest) (g := F0 m pc ls (As.reverse ++ rest)) ⟨hexec, hb, hml, hown, hts⟩ hM ⟨⟨rfl, rfl, hfr, hlo, hws, List.mem_cons_self, hts _ hw.1, hts _ hw.2, hne, fun sig hsig => by rw [hsig] at hpar; exact (Option.some.inj hpar).symm, hts _ hlk⟩, hts _ hst⟩ ⟨h_blind, fun U hU hW => ⟨rfl, kK_warm k_nsn hW hK, by rw [hU]; exact hP⟩⟩ rfl hn hls rfl (by show 2 * 0 + _ ≤ 8; omega) hd ⟨by omega, by omega⟩
  refine k_then hrun (fun v' s0 t L hs0 hq hL => ?_)
  obtain ⟨v, e1, e2⟩ := hq
  cases e1
  rw [hs0] at e2
  exact kk _ _ _ e2 hL
theorem h_callV {own : String} {y : MethodName} {b : ByteArray} {mL nL idx n d' a : Nat} {r : Option FieldType} {As : List Value} {V : Nat → Value} (hexec : p.tables.exec = Jvm.exec) (hb : c.code = cc) (hml : c.maxLocals = nL) (hown : s.vm.findClass own = some m.cls) (hts : ∀ w ∈ k_lg, w.before args s = true) (hK : kK k_cl k_aty k_ns k_sk D cA aS s) (hcell : kcell D cA kt_36 a H V) (hM : hMet l D cA aS lo y b mL r d' (.ref a :: As) P Qh) (hP : P H) (hyc : y.cls = "SilenceMatchModel") (hw : Cond.code y b mL r ∈ k_lg ∧ Cond.initialized y.cls ∈ k_lg) (hse : Cond.instanceMethod y ∈ k_lg ∧ Cond.selects "SilenceMatchModel" y y ∈ k_lg) (hlk : Cond.methodLink own idx y ∈ k_lg) (hpar : (parseMethodDescriptor y.desc).map (fun d => d.parameters.length) = some n) (hn : As.length = n) (hfr : d' + 1 ≤ R.frames) (hlo : 8 + (mL + 11) + 40 * d' ≤ R.locals) (hls : ls.size = nL) (hr : (rest.map fun v => v.category).sum ≤ 8) (hd : decode cc pc = .ok (.invokevirtual idx, 3))
    (kk : ∀ (v : Option Value) (H' : Heap) (L : List Loc), Qh H v H' → (∀ q ∈ L, lo ≤ q.base) → W p l e R s m args below meth c H' (locs ++ L) 0 0 Q (F0 m (pc + 3) ls (v.toList ++ rest))) : W p l e R s m args below meth c H locs 0 0 Q (F0 m pc ls (As.reverse ++ .ref a :: rest)) := by
  have hws : ∀ w ∈ (Cond.code y b mL r :: k_lg), ∀ (a' : Array Value) (U : State), s.WarmedH U.vm → w.before a' U = true := pay_in hts (fun w hw2 => by
    rcases List.mem_cons.mp hw2 with rfl | hw2
    · exact ⟨hw.1, good_of_word (k_lg_good _ hw.1)⟩
    · exact ⟨hw2, good_of_word (k_lg_good _ hw2)⟩)
  have hne : y.cls ≠ "java/lang/invoke/MethodHandle" ∧ y.cls ≠ "java/lang/invoke/VarHandle" := by rw [hyc]; decide
  obtain ⟨cell, q1, q2, q3, -⟩ : t_OB a (D.1 10) 38 (D.2 10) H V := hcell
  have hcls : s.vm.findClass "SilenceMatchModel" = some cell.cls := by
    obtain ⟨C, Tf, hC⟩ : ∃ Tf N, k_cl[10]? = some ("SilenceMatchModel", Tf, N) := ⟨_, _, rfl⟩
    obtain ⟨-, hfc, -⟩ := hK.1 10 _ hC
    rw [q2]
    exact hfc
  have hrun := va_runV (nL := nL) (n := n) (R := R) (cells := 0) (slots := 0) (locs := locs) (below := below) (e := e) (meth := meth) (H := H) (b := a) (As := As) (rest := rest) (C := "SilenceMatchModel") (g := F0 m pc ls (As.reverse ++ .ref a :: rest)) ⟨hexec, hb, hml, hown, hts⟩ hM ⟨⟨rfl, rfl, hfr, hlo, hws, List.mem_cons_self, hts _ hw.1, hts _ hw.2, hne, fun sig hsig => by rw [hsig] at hpar; exact (Option.some.inj hpar).symm, hts _ hlk⟩, hts _ hse.1, hts _ hse.2⟩ ⟨h_blind, ⟨cell, q1, by rw [q3]; rfl, hcls⟩, fun U hU hW => ⟨rfl, kK_warm k_nsn hW hK, by rw [hU]; exact hP⟩⟩ rfl hn hls rfl (by show 2 * 0 + _ ≤ 8; omega) hd ⟨by omega, by omega⟩
  refine k_then hrun (fun v' s0 t L hs0 hq hL => ?_)
  obtain ⟨v, e1, e2⟩ := hq
  cases e1
  rw [hs0] at e2
  exact kk _ _ _ e2 hL
end HCC
/-- where the world stands, and how wide and high it is -/
def cP (D : va_G) (cA : Nat → Nat) (r w : Nat) (w0 w1 : Int32) (H : Heap) : Prop := ∃ V W, kcell D cA kt_36 r H V ∧ V 1 = .ref w ∧ kcell D cA kt_37 w H W ∧ W 0 = .int w0 ∧ W 1 = .int w1
/-- the answer, and nothing changed -/
def cR (x : Int32) (H : Heap) (v : Option Value) (H' : Heap) : Prop := v = some (.int x) ∧ H' = H
def HD : Prop := True
set_option maxHeartbeats 4000000 in
theorem qm_abs {x : Int32} : hMet l D cA aS lo qy_abs prog_14_method_59_code 1 (some .int) 0 [.int x] (fun _ => True) (fun H v H' => ∃ y : Int32, v = some (.int y) ∧ H' = H ∧ (x = 0 → y = 0)) := by
  refine hmk (by decide +kernel) (show 1 ≤ 1 by decide) (fun p e s m below meth c ls hcx hP hlv => ?_)
  obtain ⟨hexec, hb, hml, hown, hts, hrt, hlk, hK, -⟩ := id hcx
  have hown : s.vm.findClass "java/lang/Math" = some m.cls := hown
  have dc := qd_abs
  have d0 := dc _ (List.mem_of_getElem? (i := 0) rfl)
  have d1 := dc _ (List.mem_of_getElem? (i := 1) rfl)
  have d4 := dc _ (List.mem_of_getElem? (i := 2) rfl)
  have d5 := dc _ (List.mem_of_getElem? (i := 3) rfl)
  have d6 := dc _ (List.mem_of_getElem? (i := 4) rfl)
  have d9 := dc _ (List.mem_of_getElem? (i := 5) rfl)
  have d10 := dc _ (List.mem_of_getElem? (i := 6) rfl)
  dsimp only at d0 d1 d4 d5 d6 d9 d10
  refine lv_iload_n hexec hb d0 rfl (lv_at hlv 0 rfl) ?_
  refine lv_if_ge (tgt := 9) hexec hb d1 rfl (fun _ => ?_) (fun hn => ?_)
  · refine lv_iload_n hexec hb d9 rfl (lv_at hlv 0 rfl) ?_
    exact W.iret hexec hb hrt (fun t ht _ => ⟨_, rfl, x, rfl, ht, fun h => h⟩) (fun q hq => by cases hq) d10 hlk
  · refine lv_iload_n hexec hb d4 rfl (lv_at hlv 0 rfl) ?_
    refine lv_ineg hexec hb d5 ?_
    refine lv_goto (tgt := 10) hexec hb d6 rfl ?_
    exact W.iret hexec hb hrt (fun t ht _ => ⟨_, rfl, -x, rfl, ht, fun h => by rw [h]; rfl⟩) (fun q hq => by cases hq) d10 hlk
set_option maxHeartbeats 4000000 in
theorem qm_max {x y : Int32} : hMet l D cA aS lo qy_max prog_14_method_65_code 2 (some .int) 0 [.int x, .int y] (fun _ => True) (fun H v H' => ∃ z : Int32, v = some (.int z) ∧ H' = H ∧ x.toInt ≤ z.toInt ∧ y.toInt ≤ z.toInt ∧ (z = x ∨ z = y)) := by
  refine hmk (by decide +kernel) (show 2 ≤ 2 by decide) (fun p e s m below meth c ls hcx hP hlv => ?_)
  obtain ⟨hexec, hb, hml, hown, hts, hrt, hlk, hK, -⟩ := id hcx
  have hown : s.vm.findClass "java/lang/Math" = some m.cls := hown
  have dc := qd_max
  have d0 := dc _ (List.mem_of_getElem? (i := 0) rfl)
  have d1 := dc _ (List.mem_of_getElem? (i := 1) rfl)
  have d2 := dc _ (List.mem_of_getElem? (i := 2) rfl)
  have d5 := dc _ (List.mem_of_getElem? (i := 3) rfl)
  have d6 := dc _ (List.mem_of_getElem? (i := 4) rfl)
  have d9 := dc _ (List.mem_of_getElem? (i := 5) rfl)
  have d10 := dc _ (List.mem_of_getElem? (i := 6) rfl)
  dsimp only at d0 d1 d2 d5 d6 d9 d10
  refine lv_iload_n hexec hb d0 rfl (lv_at hlv 0 rfl) ?_
  refine lv_iload_n hexec hb d1 rfl (lv_at hlv 1 rfl) ?_
  refine lv_icmp_lt (tgt := 9) hexec hb d2 rfl (fun h => ?_) (fun h => ?_)
  · have h := Int32.lt_iff_toInt_lt.mp h
    refine lv_iload_n hexec hb d9 rfl (lv_at hlv 1 rfl) ?_
    exact W.iret hexec hb hrt (fun t ht _ => ⟨_, rfl, y, rfl, ht, by omega, by omega, Or.inr rfl⟩) (fun q hq => by cases hq) d10 hlk
  · have h : ¬ x.toInt < y.toInt := fun hh => h (Int32.lt_iff_toInt_lt.mpr hh)
    refine lv_iload_n hexec hb d5 rfl (lv_at hlv 0 rfl) ?_
    refine lv_goto (tgt := 10) hexec hb d6 rfl ?_
    exact W.iret hexec hb hrt (fun t ht _ => ⟨_, rfl, x, rfl, ht, by omega, by omega, Or.inl rfl⟩) (fun q hq => by cases hq) d10 hlk
set_option maxHeartbeats 4000000 in
theorem qm_bits {x : Int32} : hMet l D cA aS lo qy_bits prog_12_method_4_code 3 (some .int) 0 [.int x] (fun _ => True) (cR (Int32.ofNat (cnt x 20))) := by
  refine hmk (by decide +kernel) (show 1 ≤ 3 by decide) (fun p e s m below meth c ls hcx hP hlv => ?_)
  obtain ⟨hexec, hb, hml, hown, hts, hrt, hlk, hK, -⟩ := id hcx
  have hown : s.vm.findClass "SilenceMatchModel" = some m.cls := hown
  have dc := qd_bits
  have d0 := dc _ (List.mem_of_getElem? (i := 0) rfl)
  have d1 := dc _ (List.mem_of_getElem? (i := 1) rfl)
  have d2 := dc _ (List.mem_of_getElem? (i := 2) rfl)
  have d3 := dc _ (List.mem_of_getElem? (i := 3) rfl)
  have d4 := dc _ (List.mem_of_getElem? (i := 4) rfl)
  have d5 := dc _ (List.mem_of_getElem? (i := 5) rfl)
  have d7 := dc _ (List.mem_of_getElem? (i := 6) rfl)
  have d10 := dc _ (List.mem_of_getElem? (i := 7) rfl)
  have d11 := dc _ (List.mem_of_getElem? (i := 8) rfl)
  have d12 := dc _ (List.mem_of_getElem? (i := 9) rfl)
  have d13 := dc _ (List.mem_of_getElem? (i := 10) rfl)
  have d14 := dc _ (List.mem_of_getElem? (i := 11) rfl)
  have d15 := dc _ (List.mem_of_getElem? (i := 12) rfl)
  have d16 := dc _ (List.mem_of_getElem? (i := 13) rfl)
  have d17 := dc _ (List.mem_of_getElem? (i := 14) rfl)
  have d18 := dc _ (List.mem_of_getElem? (i := 15) rfl)
  have d21 := dc _ (List.mem_of_getElem? (i := 16) rfl)
  have d24 := dc _ (List.mem_of_getElem? (i := 17) rfl)
  have d25 := dc _ (List.mem_of_getElem? (i := 18) rfl)
  dsimp only at d0 d1 d2 d3 d4 d5 d7 d10 d11 d12 d13 d14 d15 d16 d17 d18 d21 d24 d25
  have loop : ∀ (f k : Nat) (ls : Array Slot), k + f = 20 → lv_has ls 3 [(0, .int x), (1, .int (Int32.ofNat (cnt x k))), (2, .int (Int32.ofNat k))] → hOwe p l e lo 0 (cR (Int32.ofNat (cnt x 20))) s m ([.int x] : List Value).toArray below meth c s.heap [] 4 ls [] := by
    intro f
    induction f with
    | zero =>
      intro k ls hk hl
      obtain rfl : k = 20 := by omega
      refine lv_iload_n hexec hb d4 rfl (lv_at hl 2 rfl) ?_
      refine lv_bipush (v := 20) hexec hb d5 rfl ?_
      refine lv_icmp_ge (tgt := 24) hexec hb d7 rfl (fun _ => ?_) (fun hn => absurd (by decide) hn)
      refine lv_iload_n hexec hb d24 rfl (lv_at hl 1 rfl) ?_
      exact W.iret hexec hb hrt (fun t ht _ => ⟨_, rfl, rfl, ht⟩) (fun q hq => by cases hq) d25 hlk
    | succ f ih =>
      intro k ls hk hl
      have hki : (Int32.ofNat k).toInt = (k : Int) := Int32.toInt_ofNat_of_lt (by omega)
      refine lv_iload_n hexec hb d4 rfl (lv_at hl 2 rfl) ?_
      refine lv_bipush (v := 20) hexec hb d5 rfl ?_
      refine lv_icmp_ge (tgt := 24) hexec hb d7 rfl (fun hge => absurd (Int32.le_iff_toInt_le.mp hge) (by rw [hki]; show ¬ (20 : Int) ≤ _; omega)) (fun _ => ?_)
      refine lv_iload_n hexec hb d10 rfl (lv_at hl 1 rfl) ?_
      refine lv_iload_n hexec hb d11 rfl (lv_at hl 0 rfl) ?_
      refine lv_iload_n hexec hb d12 rfl (lv_at hl 2 rfl) ?_
      refine lv_ishr hexec hb d13 ?_
      refine lv_iconst (v := 1) hexec hb d14 rfl ?_
      refine lv_iand hexec hb d15 ?_
      rw [bt_shr (by omega)]
      refine lv_iadd hexec hb d16 ?_
      have e1 : Int32.ofNat (cnt x k) + (if bt x k = true then 1 else 0) = Int32.ofNat (cnt x (k + 1)) := by
        show _ = Int32.ofNat (cnt x k + (if bt x k = true then 1 else 0))
        rw [Int32.ofNat_add]
        congr 1
        split <;> rfl
      rw [e1]
      refine lv_istore_n hexec hb d17 rfl hl (by decide) rfl (fun ls1 hl1 => ?_)
      refine lv_iinc (k := 2) hexec hb d18 hl1 rfl rfl (by decide) rfl (fun ls2 hl2 => ?_)
      refine lv_goto (tgt := 4) hexec hb d21 rfl ?_
      have e2 : Int32.ofNat k + Int32.ofInt 1 = Int32.ofNat (k + 1) := by
        rw [Int32.ofNat_add]
        rfl
      rw [e2] at hl2
      exact ih (k + 1) ls2 (by omega) (lv_sub hl2 [2, 1, 0] rfl)
  refine lv_iconst (v := 0) hexec hb d0 rfl ?_
  refine lv_istore_n hexec hb d1 rfl hlv (by decide) rfl (fun ls1 hl1 => ?_)
  refine lv_iconst (v := 0) hexec hb d2 rfl ?_
  refine lv_istore_n hexec hb d3 rfl hl1 (by decide) rfl (fun ls2 hl2 => ?_)
  exact loop 20 0 ls2 rfl (lv_sub hl2 [2, 1, 0] rfl)
set_option maxHeartbeats 4000000 in
theorem qm_cellMany {r w : Nat} {w0 w1 : Int32} : hMet l D cA aS lo qy_cellMany prog_12_method_9_code 1 (some .int) 0 [.ref r] (cP D cA r w w0 w1) (cR (w0 * w1)) := by
  refine hmk (by decide +kernel) (show 1 ≤ 1 by decide) (fun p e s m below meth c ls hcx hP hlv => ?_)
  obtain ⟨hexec, hb, hml, hown, hts, hrt, hlk, hK, -⟩ := id hcx
  have hown : s.vm.findClass "SilenceMatchModel" = some m.cls := hown
  have dc := qd_cellMany
  have d0 := dc _ (List.mem_of_getElem? (i := 0) rfl)
  have d1 := dc _ (List.mem_of_getElem? (i := 1) rfl)
  have d4 := dc _ (List.mem_of_getElem? (i := 2) rfl)
  have d5 := dc _ (List.mem_of_getElem? (i := 3) rfl)
  have d6 := dc _ (List.mem_of_getElem? (i := 4) rfl)
  have d7 := dc _ (List.mem_of_getElem? (i := 5) rfl)
  have d10 := dc _ (List.mem_of_getElem? (i := 6) rfl)
  have d11 := dc _ (List.mem_of_getElem? (i := 7) rfl)
  have d12 := dc _ (List.mem_of_getElem? (i := 8) rfl)
  have d13 := dc _ (List.mem_of_getElem? (i := 9) rfl)
  dsimp only at d0 d1 d4 d5 d6 d7 d10 d11 d12 d13
  obtain ⟨V, W', hc, e1, hw, f0, f1⟩ := hP
  refine lv_aload_n hexec hb d0 rfl (lv_at hlv 0 rfl) ?_
  refine h_get (T := kt_36) (idx := 9) (j := 1) (tc := 3) hexec hb hts k_clok hown hK wf_SilenceMatchModel (by decide) rfl (by decide) hc d1 ?_
  rw [e1]
  refine lv_iconst (v := 0) hexec hb d4 rfl ?_
  refine r_ald (T := kt_37) (ty := .int) (z := 0) hexec hb hK rfl rfl rfl rfl (by decide) hw d5 ?_
  rw [f0]
  refine lv_aload_n hexec hb d6 rfl (lv_at hlv 0 rfl) ?_
  refine h_get (T := kt_36) (idx := 9) (j := 1) (tc := 3) hexec hb hts k_clok hown hK wf_SilenceMatchModel (by decide) rfl (by decide) hc d7 ?_
  rw [e1]
  refine lv_iconst (v := 1) hexec hb d10 rfl ?_
  refine r_ald (T := kt_37) (ty := .int) (z := 1) hexec hb hK rfl rfl rfl rfl (by decide) hw d11 ?_
  rw [f1]
  refine lv_imul hexec hb d12 ?_
  exact W.iret hexec hb hrt (fun t ht _ => ⟨_, rfl, rfl, ht⟩) (fun q hq => by cases hq) d13 hlk
end HCOV
