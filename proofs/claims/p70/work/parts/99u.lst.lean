/-! THE LOOP'S STATES: the world unread (A), read (B), any (W) -/
def lF0 : List kF := [(1, kcst 1, .inr (.inr (.inl 2))), (1, kcst 2, .inr (.inr (.inl 3)))]
def lq0 : kQ := [k32, k32, k32, k32, k32, k64]
def lqb : kQ := [(0, 5), (0, 4), (0, 8), (0, 4), k32]
def lFb (r b s0 : Nat) : List kF := [(r, kcst (Int.ofNat b), .inl (ksym s0)), (r, kcst (Int.ofNat (b + 1)), .inl (ksym (s0 + 1))), (r, kcst (Int.ofNat (b + 5)), .inl (ksym (s0 + 2))), (r, kcst (Int.ofNat (b + 6)), .inl (ksym (s0 + 3))), (r, kcst (Int.ofNat (b + 10)), .inl (ksym (s0 + 4)))]
def lsA : kS := (lq0, [0, 36, 37, 38], [], [], lF0 ++ [(2, kcst 0, .inl (kcst 0)), (2, kcst 1, .inl (kcst 0)), (2, kcst 5, .inl (kcst 0)), (2, kcst 6, .inl (kcst 0)), (2, kcst 10, .inl (kcst 0))], [])
def lsB : kS := (lq0 ++ [(1, 5), (1, 4), (0, 8)], [0, 36, 37, 38], [], [], lF0 ++ [(2, kcst 0, .inl (ksym 6)), (2, kcst 1, .inl (ksym 7)), (2, kcst 5, .inl (ksym 8))], [])
def lsW : kS := (lq0 ++ (lqb ++ (lqb ++ (lqb ++ lqb))), [0, 36, 37, 38], [], [], lF0 ++ (lFb 2 0 6 ++ (lFb 3 0 11 ++ (lFb 3 115 16 ++ lFb 3 230 21))), [])
def stW : List Nat := [6, 11, 16, 21]
section LST
variable {D : va_G} {cA : Nat → ClassId} {tt : List kT} {Ty : Nat → Nat → Prop} {env : List Int} {ren : List Nat} {H : Heap} {xs : Nat → Int32} {I : Nat}
theorem kI_app {e1 e2 : List Int} {i1 i2 : kQ} (h1 : kI e1 i1) (h2 : kI e2 i2) : kI (e1 ++ e2) (i1 ++ i2) := by
  refine ⟨by simp [h1.1, h2.1], fun k q z hq hz => ?_⟩
  by_cases hlt : k < i1.length
  · rw [List.getElem?_append_left hlt] at hq
    rw [List.getElem?_append_left (by rw [h1.1]; exact hlt)] at hz
    exact h1.2 k q z hq hz
  · rw [List.getElem?_append_right (by omega)] at hq
    rw [List.getElem?_append_right (by rw [h1.1]; omega), h1.1] at hz
    exact h2.2 _ q z hq hz
theorem kI_cons {z : Int} {q : Int × Int} {e : List Int} {iv : kQ} (h : q.1 ≤ z ∧ z ≤ q.2) (h2 : kI e iv) : kI (z :: e) (q :: iv) := by
  refine ⟨by simp [h2.1], fun k r w hr hw => ?_⟩
  match k, hr, hw with
  | 0, hr, hw =>
    cases hr; cases hw
    exact h
  | k + 1, hr, hw => exact h2.2 k r w hr hw
theorem kI_nil : kI [] [] := ⟨rfl, fun k q z h => by simp at h⟩
theorem lRt {a a1 a2 a3 : Nat} (t0 : Ty a 0) (t1 : Ty a1 36) (t2 : Ty a2 37) (t3 : Ty a3 38) : kRt Ty [a, a1, a2, a3] [0, 36, 37, 38] := ⟨rfl, fun k t a hk ha => by
  match k, hk, ha with
  | 0, hk, ha => cases hk; cases ha; exact t0
  | 1, hk, ha => cases hk; cases ha; exact t1
  | 2, hk, ha => cases hk; cases ha; exact t2
  | 3, hk, ha => cases hk; cases ha; exact t3
  | k + 4, hk, ha => cases hk⟩
theorem l_fct {r j a t : Nat} {T : kT} {V : Nat → Value} {v : kV} (hTy : kTyp tt Ty) (hr : ren[r]? = some a) (ht : Ty a t) (hT : tt[t]? = some T) (hc : kcell D cA T a H V) (hj : j < T.2.1) (hv : kvok env ren v (V j)) : kfok D cA tt Ty env ren H (r, kcst (Int.ofNat j), v) := kfok_mk hTy ⟨a, t, T, V, j, hr, ht, hT, hc, kcst_ev, hj, hv⟩
/-- a block's numbers -/
theorem l_blkv {T : kT} {V : Nat → Value} {b N : Nat} (hv : kvals Ty T V) (ho : okb V b) (hb : b + 10 < N) (r0 : (b, 1, 1, (.inl [(0, 5)] : kP)) ∈ T.2.2.1) (r1 : (b + 1, 1, 1, (.inl [(0, 4)] : kP)) ∈ T.2.2.1) (r5 : (b + 5, 1, 1, (.inl [(0, 8)] : kP)) ∈ T.2.2.1) (r6 : (b + 6, 1, 1, (.inl [(0, 4)] : kP)) ∈ T.2.2.1) (rA : (0, 1, N, (.inl [k32] : kP)) ∈ T.2.2.1) : ∃ n0 n1 n5 n6 n10 : Int32, V b = .int n0 ∧ V (b + 1) = .int n1 ∧ V (b + 5) = .int n5 ∧ V (b + 6) = .int n6 ∧ V (b + 10) = .int n10 ∧ kI [n0.toInt, n1.toInt, n5.toInt, n6.toInt, n10.toInt] lqb ∧ okz n0.toInt n1.toInt n5.toInt n6.toInt n10.toInt := by
  obtain ⟨n0, e0, q0, m0, b0⟩ := hv.1 _ r0 0 (Nat.lt_succ_self 0)
  obtain ⟨n1, e1, q1, m1, b1⟩ := hv.1 _ r1 0 (Nat.lt_succ_self 0)
  obtain ⟨n5, e5, q5, m5, b5⟩ := hv.1 _ r5 0 (Nat.lt_succ_self 0)
  obtain ⟨n6, e6, q6, m6, b6⟩ := hv.1 _ r6 0 (Nat.lt_succ_self 0)
  obtain ⟨n10, e10, -⟩ := hv.1 _ rA (b + 10) hb
  have m0 := List.mem_singleton.mp m0
  have m1 := List.mem_singleton.mp m1
  have m5 := List.mem_singleton.mp m5
  have m6 := List.mem_singleton.mp m6
  subst m0; subst m1; subst m5; subst m6
  have e0 : V b = .int n0 := e0
  have e1 : V (b + 1) = .int n1 := e1
  have e5 : V (b + 5) = .int n5 := e5
  have e6 : V (b + 6) = .int n6 := e6
  have e10 : V (0 + 1 * (b + 10)) = .int n10 := e10
  rw [Nat.zero_add, Nat.one_mul] at e10
  refine ⟨n0, n1, n5, n6, n10, e0, e1, e5, e6, e10, kI_cons b0 (kI_cons b1 (kI_cons b5 (kI_cons b6 (kI_cons (k32_in n10) kI_nil)))), ?_⟩
  rcases ho with ⟨o0, o1, o5, o6, o10⟩ | ⟨z0, z1, z5, o0, o1, o5, c0, c1, c5⟩
  · rw [e0] at o0; rw [e1] at o1; rw [e5] at o5; rw [e6] at o6; rw [e10] at o10
    cases o0; cases o1; cases o5; cases o6; cases o10
    exact Or.inl ⟨rfl, rfl, rfl, rfl, rfl⟩
  · rw [e0] at o0; rw [e1] at o1; rw [e5] at o5
    cases o0; cases o1; cases o5
    exact Or.inr ⟨c0, c1, c5⟩
theorem l_F0 {lo a a1 a2 a3 : Nat} {T : kT} (hTy : kTyp tt Ty) (hG : kgood D cA tt Ty lo H) (hm : lmd D cA tt a1 a2 a3 H) (hT : tt[36]? = some T) (t1 : Ty a1 36) : ∀ q ∈ lF0, kfok D cA tt Ty env [a, a1, a2, a3] H q := by
  obtain ⟨-, V, hc, -⟩ := hG.1 a1 36 T t1 hT
  obtain ⟨e1, e2⟩ := hm.1 T V hT hc
  have h38 := hTy.2.2.2.1 T hT
  exact List.forall_mem_cons.mpr ⟨l_fct (j := 1) hTy rfl t1 hT hc (by omega) ⟨a2, e1, rfl⟩, List.forall_mem_cons.mpr ⟨l_fct (j := 2) hTy rfl t1 hT hc (by omega) ⟨a3, e2, rfl⟩, fun _ h => absurd h List.not_mem_nil⟩⟩
/-- by the world's mode -/
theorem l_stAB {lo a a1 a2 a3 : Nat} {T T7 : kT} (hTy : kTyp tt Ty) (hG : kgood D cA tt Ty lo H) (hm : lmd D cA tt a1 a2 a3 H) (hT : tt[36]? = some T) (hT7 : tt[37]? = some T7) (h115 : 10 < T7.2.1) (t0 : Ty a 0) (t1 : Ty a1 36) (t2 : Ty a2 37) (t3 : Ty a3 38) : kst D cA tt Ty (lenv xs I ++ []) [a, a1, a2, a3] (lsk lsA []) H [] [] ∨ ∃ ev, kst D cA tt Ty (lenv xs I ++ ev) [a, a1, a2, a3] (lsk lsB []) H [] [] := by
  obtain ⟨-, V, hc, -⟩ := hG.1 a2 37 T7 t2 hT7
  rcases hm.2.1 T7 V hT7 hc with ⟨o0, o1, o5, o6, o10⟩ | ⟨z0, z1, z5, o0, o1, o5, c0, c1, c5⟩
  · left
    have o0 : V 0 = .int 0 := o0
    have o1 : V 1 = .int 0 := o1
    have o5 : V 5 = .int 0 := o5
    have o6 : V 6 = .int 0 := o6
    have o10 : V 10 = .int 0 := o10
    have z : ∀ {env : List Int} {ren : List Nat} {x : Value}, x = .int 0 → kvok env ren (.inl (kcst 0)) x := fun e => ⟨0, e, kcst_ev⟩
    refine ⟨by rw [List.append_nil]; exact lenv_in, (fun g hg => by cases hg), lRt t0 t1 t2 t3, trivial, trivial, List.forall_mem_append.mpr ⟨l_F0 hTy hG hm hT t1, ?_⟩⟩
    exact List.forall_mem_cons.mpr ⟨l_fct (j := 0) hTy rfl t2 hT7 hc (by omega) (z o0), List.forall_mem_cons.mpr ⟨l_fct (j := 1) hTy rfl t2 hT7 hc (by omega) (z o1), List.forall_mem_cons.mpr ⟨l_fct (j := 5) hTy rfl t2 hT7 hc (by omega) (z o5), List.forall_mem_cons.mpr ⟨l_fct (j := 6) hTy rfl t2 hT7 hc (by omega) (z o6), List.forall_mem_cons.mpr ⟨l_fct (j := 10) hTy rfl t2 hT7 hc (by omega) (z o10), fun _ h => absurd h List.not_mem_nil⟩⟩⟩⟩⟩
  · right
    refine ⟨[z0.toInt, z1.toInt, z5.toInt], kI_app lenv_in (kI_cons c0 (kI_cons c1 (kI_cons c5 kI_nil))), (fun g hg => by cases hg), lRt t0 t1 t2 t3, trivial, trivial, List.forall_mem_append.mpr ⟨l_F0 hTy hG hm hT t1, ?_⟩⟩
    exact List.forall_mem_cons.mpr ⟨l_fct (j := 0) hTy rfl t2 hT7 hc (by omega) ⟨z0, o0, ksym_ev rfl⟩, List.forall_mem_cons.mpr ⟨l_fct (j := 1) hTy rfl t2 hT7 hc (by omega) ⟨z1, o1, ksym_ev rfl⟩, List.forall_mem_cons.mpr ⟨l_fct (j := 5) hTy rfl t2 hT7 hc (by omega) ⟨z5, o5, ksym_ev rfl⟩, fun _ h => absurd h List.not_mem_nil⟩⟩⟩
theorem l_Fb {r b s0 a t : Nat} {T : kT} {V : Nat → Value} {n0 n1 n5 n6 n10 : Int32} (hTy : kTyp tt Ty) (hr : ren[r]? = some a) (ht : Ty a t) (hT : tt[t]? = some T) (hc : kcell D cA T a H V) (hb : b + 10 < T.2.1) (e0 : V b = .int n0) (e1 : V (b + 1) = .int n1) (e5 : V (b + 5) = .int n5) (e6 : V (b + 6) = .int n6) (e10 : V (b + 10) = .int n10) (y0 : env[s0]? = some n0.toInt) (y1 : env[s0 + 1]? = some n1.toInt) (y5 : env[s0 + 2]? = some n5.toInt) (y6 : env[s0 + 3]? = some n6.toInt) (y10 : env[s0 + 4]? = some n10.toInt) : ∀ q ∈ lFb r b s0, kfok D cA tt Ty env ren H q :=
  List.forall_mem_cons.mpr ⟨l_fct hTy hr ht hT hc (by omega) ⟨n0, e0, ksym_ev y0⟩, List.forall_mem_cons.mpr ⟨l_fct hTy hr ht hT hc (by omega) ⟨n1, e1, ksym_ev y1⟩, List.forall_mem_cons.mpr ⟨l_fct hTy hr ht hT hc (by omega) ⟨n5, e5, ksym_ev y5⟩, List.forall_mem_cons.mpr ⟨l_fct hTy hr ht hT hc (by omega) ⟨n6, e6, ksym_ev y6⟩, List.forall_mem_cons.mpr ⟨l_fct hTy hr ht hT hc (by omega) ⟨n10, e10, ksym_ev y10⟩, fun _ h => absurd h List.not_mem_nil⟩⟩⟩⟩⟩
end LST
def lT7 : kT := k_tt.getD 37 (0, 0, [], [])
def lT8 : kT := k_tt.getD 38 (0, 0, [], [])
theorem lT7_at : k_tt[37]? = some lT7 := rfl
theorem lT8_at : k_tt[38]? = some lT8 := rfl
/-- a run of a type, found by its place in the list -/
def lrun (T : kT) (i b n : Nat) (q : Int × Int) : Bool := match T.2.2.1[i]? with
  | some (b', s', n', .inl [q']) => Nat.beq b' b && (Nat.beq s' 1 && (Nat.beq n' n && (kz (q'.1 - q.1) && kz (q'.2 - q.2))))
  | _ => false
theorem lrun_ok {T : kT} {i b n : Nat} {q : Int × Int} (h : lrun T i b n q = true) : (b, 1, n, (.inl [q] : kP)) ∈ T.2.2.1 := by
  unfold lrun at h
  split at h
  · rename_i b' s' n' q' hq
    simp only [Bool.and_eq_true] at h
    obtain ⟨h1, h2, h3, h4, h5⟩ := h
    have e1 := Nat.beq_eq.mp h1
    have e2 := Nat.beq_eq.mp h2
    have e3 := Nat.beq_eq.mp h3
    have e4 := kz_iff.mp h4
    have e5 := kz_iff.mp h5
    subst e1; subst e2; subst e3
    have e : q' = q := Prod.ext (by omega) (by omega)
    subst e
    exact List.mem_of_getElem? hq
  · cases h
section LSTW
variable {D : va_G} {cA : Nat → ClassId} {Ty : Nat → Nat → Prop} {env : List Int} {ren : List Nat} {H : Heap} {xs : Nat → Int32} {I : Nat}
set_option maxHeartbeats 4000000 in
theorem l_stW {lo a a1 a2 a3 : Nat} {T : kT} (hTy : kTyp k_tt Ty) (hG : kgood D cA k_tt Ty lo H) (hm : lmd D cA k_tt a1 a2 a3 H) (hT : k_tt[36]? = some T) (t0 : Ty a 0) (t1 : Ty a1 36) (t2 : Ty a2 37) (t3 : Ty a3 38) : ∃ ev, kst D cA k_tt Ty (lenv xs I ++ ev) [a, a1, a2, a3] (lsk lsW []) H [] [] ∧ ∀ s0 ∈ stW, okE (lenv xs I ++ ev) s0 := by
  obtain ⟨-, V, hc, hv⟩ := hG.1 a2 37 _ t2 lT7_at
  obtain ⟨-, W, hd, hw⟩ := hG.1 a3 38 _ t3 lT8_at
  have o := hm.2.1 _ V lT7_at hc
  obtain ⟨p0, p1, p2⟩ := hm.2.2 _ W lT8_at hd
  have N7 : lT7.2.1 = 115 := by decide +kernel
  have N8 : lT8.2.1 = 345 := by decide +kernel
  obtain ⟨n0, n1, n2, n3, n4, f0, f1, f2, f3, f4, f5, f6⟩ := l_blkv (b := 0) (N := 115) hv o (by decide) (lrun_ok (i := 0) (by decide +kernel)) (lrun_ok (i := 1) (by decide +kernel)) (lrun_ok (i := 4) (by decide +kernel)) (lrun_ok (i := 5) (by decide +kernel)) (lrun_ok (i := 11) (by decide +kernel))
  obtain ⟨m0, m1, m2, m3, m4, g0, g1, g2, g3, g4, g5, g6⟩ := l_blkv (b := 0) (N := 345) hw p0 (by decide) (lrun_ok (i := 0) (by decide +kernel)) (lrun_ok (i := 1) (by decide +kernel)) (lrun_ok (i := 4) (by decide +kernel)) (lrun_ok (i := 5) (by decide +kernel)) (lrun_ok (i := 33) (by decide +kernel))
  obtain ⟨k0, k1, k2, k3, k4, h0, h1, h2, h3, h4, h5, h6⟩ := l_blkv (b := 115) (N := 345) hw p1 (by decide) (lrun_ok (i := 11) (by decide +kernel)) (lrun_ok (i := 12) (by decide +kernel)) (lrun_ok (i := 15) (by decide +kernel)) (lrun_ok (i := 16) (by decide +kernel)) (lrun_ok (i := 33) (by decide +kernel))
  obtain ⟨j0, j1, j2, j3, j4, i0, i1, i2, i3, i4, i5, i6⟩ := l_blkv (b := 230) (N := 345) hw p2 (by decide) (lrun_ok (i := 22) (by decide +kernel)) (lrun_ok (i := 23) (by decide +kernel)) (lrun_ok (i := 26) (by decide +kernel)) (lrun_ok (i := 27) (by decide +kernel)) (lrun_ok (i := 33) (by decide +kernel))
  refine ⟨[n0.toInt, n1.toInt, n2.toInt, n3.toInt, n4.toInt] ++ ([m0.toInt, m1.toInt, m2.toInt, m3.toInt, m4.toInt] ++ ([k0.toInt, k1.toInt, k2.toInt, k3.toInt, k4.toInt] ++ [j0.toInt, j1.toInt, j2.toInt, j3.toInt, j4.toInt])), ⟨kI_app lenv_in (kI_app f5 (kI_app g5 (kI_app h5 i5))), (fun g hg => by cases hg), lRt t0 t1 t2 t3, trivial, trivial, List.forall_mem_append.mpr ⟨l_F0 hTy hG hm hT t1, List.forall_mem_append.mpr ⟨l_Fb hTy rfl t2 lT7_at hc (by omega) f0 f1 f2 f3 f4 rfl rfl rfl rfl rfl, List.forall_mem_append.mpr ⟨l_Fb hTy rfl t3 lT8_at hd (by omega) g0 g1 g2 g3 g4 rfl rfl rfl rfl rfl, List.forall_mem_append.mpr ⟨l_Fb hTy rfl t3 lT8_at hd (by omega) h0 h1 h2 h3 h4 rfl rfl rfl rfl rfl, l_Fb hTy rfl t3 lT8_at hd (by omega) i0 i1 i2 i3 i4 rfl rfl rfl rfl rfl⟩⟩⟩⟩⟩, ?_⟩
  exact List.forall_mem_cons.mpr ⟨⟨_, _, _, _, _, rfl, rfl, rfl, rfl, rfl, f6⟩, List.forall_mem_cons.mpr ⟨⟨_, _, _, _, _, rfl, rfl, rfl, rfl, rfl, g6⟩, List.forall_mem_cons.mpr ⟨⟨_, _, _, _, _, rfl, rfl, rfl, rfl, rfl, h6⟩, List.forall_mem_cons.mpr ⟨⟨_, _, _, _, _, rfl, rfl, rfl, rfl, rfl, i6⟩, fun _ h => absurd h List.not_mem_nil⟩⟩⟩⟩
end LSTW
