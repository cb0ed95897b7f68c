/-! ROW: both calls -/
def lsn (S : kS) (k : Nat) (q : Int × Int) : kS := (S.1.set k q, S.2)
theorem lsn_ok {D : va_G} {cA : Nat → ClassId} {tt : List kT} {Ty : Nat → Nat → Prop} {env : List Int} {ren : List Nat} {S : kS} {H : Heap} {k : Nat} {q : Int × Int} {z : Int} {st : List kV} {vs : List Value} (h : kst D cA tt Ty env ren (lsk S st) H [] vs) (hz : env[k]? = some z) (h1 : q.1 ≤ z) (h2 : z ≤ q.2) : kst D cA tt Ty env ren (lsk (lsn S k q) st) H [] vs := by
  refine ⟨kI_set h.1 (fun z' hz' => ?_), h.2⟩
  have e : z' = z := Option.some.inj (hz'.symm.trans hz)
  subst e
  exact ⟨h1, h2⟩
def lq3 (S : kS) (q0 q1 q2 : Int × Int) : kS := lsn (lsn (lsn S 0 q0) 1 q1) 2 q2
theorem lq3_ok {D : va_G} {cA : Nat → ClassId} {tt : List kT} {Ty : Nat → Nat → Prop} {xs : Nat → Int32} {I : Nat} {ev : List Int} {ren : List Nat} {S : kS} {H : Heap} {q0 q1 q2 : Int × Int} (h : kst D cA tt Ty (lenv xs I ++ ev) ren (lsk S []) H [] []) (h0 : q0.1 ≤ (xs (I + 1)).toInt ∧ (xs (I + 1)).toInt ≤ q0.2) (h1 : q1.1 ≤ (xs (I + 2)).toInt ∧ (xs (I + 2)).toInt ≤ q1.2) (h2 : q2.1 ≤ (xs (I + 3)).toInt ∧ (xs (I + 3)).toInt ≤ q2.2) : kst D cA tt Ty (lenv xs I ++ ev) ren (lsk (lq3 S q0 q1 q2) []) H [] [] :=
  lsn_ok (lsn_ok (lsn_ok h rfl h0.1 h0.2) rfl h1.1 h1.2) rfl h2.1 h2.2
def lsC0 (K : Nat) : kS := (lq0, [55 + K, 59 + K, 30], [], [], [(0, kcst 9, .inr (.inr (.inl 1))), (1, kcst (Int.ofNat K), .inr (.inr (.inl 2)))], [])
def lsC (K : Nat) : kS := lq3 (lsC0 K) ((K : Int), (K : Int)) (0, 3) (0, 60)
def wrR : kW := [(30, some 0), (30, some 1), (31, none)]
theorem wrR_ok : ∀ w ∈ wrR, w.1 = 30 ∨ w.1 = 31 := by decide
def lrowb (ow : kOw) (cal : List (Nat × List Nat)) (K pc iA : Nat) : Bool := match kinv k_ttR k_aty k_ctR ow cal wrR 2000 pc (.invokevirtual iA) (lsk (lsC K) ((lav 3).reverse ++ [.inr (.inr (.inl 0))])) with
  | some L => L.all (fun S' => match S'.2.2.2.1 with
    | [v] => lkind false v && (lz S' 2 0 (fun f => kLeq f (ksym 1)) && lz S' 2 1 (fun f => kLeq f (ksym 2)))
    | _ => false)
  | none => false
section LROWC
variable {p : Program} {l : Launch} {e : Env} {R : Room} {s : State} {m : MethodId} {args : Array Value} {below : List Frame} {meth : Method} {c : Code} {H : Heap} {locs : List Loc} {cells slots : Nat} {Q : State → Prop}
variable {cc : ByteArray} {pc : Nat} {ls : Array Slot} {I n K : Nat} {xs : Nat → Int32}
variable {cA aS adV : Nat → Nat} {D : va_G}
set_option maxHeartbeats 4000000 in
theorem lrow_c {own : String} {ow : kOw} {cal : List (Nat × List Nat)} {nL iA : Nat} (hexec : p.tables.exec = Jvm.exec) (hb : c.code = cc) (hml : c.maxLocals = nL) (hR : 2048 ≤ R.frames ∧ 84000 ≤ R.locals) (hcs : cells ≤ R.cells ∧ slots ≤ R.slots) (hown : s.vm.findClass own = some m.cls) (hts : ∀ w ∈ k_lg, w.before args s = true) (how : kOwM own ow k_cl (k_mw.map (fun x => x.1)) k_lg k_ns) (hK : kK k_cl k_aty k_ns k_sk D cA aS s) (hXs : sX aS adV n s s.heap)
    (hK4 : K < 4) (hchk : lrowb ow cal K pc iA = true) (hd : decode cc pc = .ok (.invokevirtual iA, 3)) (hls : ls.size = nL) (z0 : (xs (I + 1)).toInt = (K : Int)) (z1 : 0 ≤ (xs (I + 2)).toInt ∧ (xs (I + 2)).toInt ≤ 3) (z2 : 0 ≤ (xs (I + 3)).toInt ∧ (xs (I + 3)).toInt ≤ 60) (hfr : ∀ q, q < n → H[q]? = s.heap[q]?) (hG : kgood D cA k_tt (sTy n k_tl aS) n H) (hr : lrw D cA n H)
    (kk : ∀ (v : kV) (x : List Int) (y : Value) (H' : Heap) (L' : List Loc), lkind false v = true → kvok (lenv xs I ++ x) [] v y ∨ (∃ u, kvok (lenv xs I ++ x) u v y) → kgood D cA k_tt (sTy n k_tl aS) n H' → kfr n H H' → (∀ (a t : Nat) (T : kT) (V' : Nat → Value), sTy n k_tl aS a t → k_tt[t]? = some T → a ≠ n + (53 + 2 * K) → a ≠ n + (54 + 2 * K) → kcell D cA T a H' V' → ∃ V, kcell D cA T a H V ∧ ∀ j, j < T.2.1 → V' j = V j) → (∀ V' : Nat → Value, kcell D cA lT30 (n + (53 + 2 * K)) H' V' → V' 0 = .int (xs (I + 2)) ∧ V' 1 = .int (xs (I + 3)) ∧ V' 2 = .ref (n + (54 + 2 * K))) → (∀ q ∈ L', n ≤ q.base) → W p l e R s m args below meth c H' (locs ++ L') cells slots Q (F0 m (pc + 3) ls [y])) : W p l e R s m args below meth c H locs cells slots Q (F0 m pc ls ((lvs xs I 3).reverse ++ [.ref n])) := by
  unfold lrowb at hchk
  split at hchk
  case h_2 => cases hchk
  rename_i L hL
  have hX : kXok (sX aS adV n) n := sX_ok
  have hT : kTyp k_ttR (rTy n aS K) := rTy_typ
  have hG1 := rgood hK4 hG hr
  have t0 : rTy n aS K n (55 + K) := Or.inr (Or.inr (Or.inl ⟨rfl, rfl⟩))
  have t1 : rTy n aS K (n + 52) (59 + K) := Or.inr (Or.inr (Or.inr (Or.inl ⟨rfl, rfl⟩)))
  have t2 : rTy n aS K (n + (53 + 2 * K)) 30 := Or.inl ⟨rfl, rfl⟩
  obtain ⟨-, V0, c0, -⟩ := hG.1 n 0 _ rt0 lT0_at
  obtain ⟨-, V2, c2, -⟩ := hG.1 (n + 52) 32 _ rt32 lT32_at
  have hrt : kRt (rTy n aS K) [n, n + 52, n + (53 + 2 * K)] [55 + K, 59 + K, 30] := ⟨rfl, fun k t a hk ha => by
    match k, hk, ha with
    | 0, hk, ha => cases hk; cases ha; exact t0
    | 1, hk, ha => cases hk; cases ha; exact t1
    | 2, hk, ha => cases hk; cases ha; exact t2
    | k + 3, hk, ha => cases hk⟩
  have s0 : kst D cA k_ttR (rTy n aS K) (lenv xs I ++ []) [n, n + 52, n + (53 + 2 * K)] (lsk (lsC0 K) []) H [] [] := ⟨by rw [List.append_nil]; exact lenv_in, (fun g hg => by cases hg), hrt, trivial, trivial, List.forall_mem_cons.mpr ⟨kfok_mk hT ⟨n, 55 + K, _, V0, 9, rfl, t0, lRc K hK4, kcell_as c0 lR0.1.symm lR0.2.symm, kcst_ev, by show 9 < 13; decide, ⟨n + 52, hr.1 V0 c0, rfl⟩⟩, List.forall_mem_cons.mpr ⟨kfok_mk hT ⟨n + 52, 59 + K, _, V2, K, rfl, t1, lRr K hK4, kcell_as c2 lR32.1.symm lR32.2.symm, kcst_ev, hK4, ⟨n + (53 + 2 * K), hr.2.1 V2 c2 K hK4, rfl⟩⟩, fun _ h => absurd h List.not_mem_nil⟩⟩⟩
  have s1 := lq3_ok (q0 := ((K : Int), (K : Int))) (q1 := (0, 3)) (q2 := (0, 60)) s0 ⟨by show (K : Int) ≤ (xs (I + 1)).toInt; omega, by show (xs (I + 1)).toInt ≤ (K : Int); omega⟩ z1 z2
  have s2 : kst D cA k_ttR (rTy n aS K) (lenv xs I ++ []) [n, n + 52, n + (53 + 2 * K)] (lsk (lsC K) ((lav 3).reverse ++ [.inr (.inr (.inl 0))])) H [] ((lvs xs I 3).reverse ++ [.ref n]) := ⟨s1.1, s1.2.1, s1.2.2.1, trivial, kStk_app (lav_okE (Or.inr (Or.inr (Or.inr (Or.inl rfl))))) ⟨⟨n, rfl, rfl⟩, trivial⟩, s1.2.2.2.2.2⟩
  refine linv_ok hexec hb hml ⟨Nat.le_refl _, hR⟩ hcs hown hts k_lg_good how hK k_nsn hX hXs hT hG1 hfr (keptR hX hT rTy_str) s2 hls hd hL (fun S' hS x u st' H1 L1 g1 g2 g3 g4 g5 => ?_)
  have hc2 := List.all_eq_true.mp hchk S' hS
  split at hc2
  case h_2 => cases hc2
  rename_i v hv
  simp only [Bool.and_eq_true] at hc2
  obtain ⟨w1, w2, w3⟩ := hc2
  have hk1 := g5.2.2.2.2.1
  rw [hv] at hk1
  match st', hk1 with
  | [], hk1 => exact hk1.elim
  | _ :: _ :: _, hk1 => exact hk1.2.elim
  | [y], hk1 =>
  rw [List.append_nil] at g5 hk1
  refine kk v x y H1 L1 w1 (Or.inr ⟨_, hk1.1⟩) (rback hK4 hG g1 g3 wrR_ok) g2 (fun a t T V' h1 h2 h3 h4 h5 => ?_) (fun V' hV => ?_) g4
  · obtain ⟨V, q1, -, q3⟩ := rframe hK4 hG g3 wrR_ok h1 h2 h3 h4 h5
    exact ⟨V, q1, q3⟩
  · obtain ⟨n0, f0, a0, b0, e0⟩ := lz_ok hT g5 (a := n + (53 + 2 * K)) rfl t2 lR30 hV w2
    obtain ⟨n1, f1, a1, b1, e1⟩ := lz_ok hT g5 (a := n + (53 + 2 * K)) rfl t2 lR30 hV w3
    have y0 := kLeq_val e0 b0 (ksym_ev (show (lenv xs I ++ x)[1]? = some (xs (I + 2)).toInt from rfl))
    have y1 := kLeq_val e1 b1 (ksym_ev (show (lenv xs I ++ x)[2]? = some (xs (I + 3)).toInt from rfl))
    obtain ⟨-, W, cW, -⟩ := hG.1 _ 30 _ (rt30 hK4) lT30_at
    obtain ⟨W2, cW2, eW⟩ := g3 _ 30 _ W 2 t2 lR30 cW (by rw [lT30_n]; decide) (by decide)
    refine ⟨by rw [a0, Int32.toInt_inj.mp y0], by rw [a1, Int32.toInt_inj.mp y1], ?_⟩
    rw [kcell_uniq hV cW2 (j := 2) (by rw [lT30_n]; decide), eW]
    exact hr.2.2.2.1 K hK4 W cW
end LROWC
/-! the reference's side -/
def lFR : List kF := [(1, kcst 34, .inr (.inr (.inl 4))), (1, kcst 35, .inr (.inr (.inl 5))), (4, kcst 0, .inl (ksym 26)), (4, kcst 1, .inl (ksym 27)), (4, kcst 2, .inl (ksym 28)), (4, kcst 3, .inl (ksym 29)), (5, kcst 0, .inl (ksym 30)), (5, kcst 1, .inl (ksym 31)), (5, kcst 2, .inl (ksym 32)), (5, kcst 3, .inl (ksym 33))]
def lqR : kQ := [(-1, 60), (-1, 60), (-1, 60), (-1, 60), (0, 3), (0, 3), (0, 3), (0, 3)]
def lsR : kS := lsx lsW lqR [51, 52] lFR
section LSTR
variable {D : va_G} {cA : Nat → ClassId} {Ty : Nat → Nat → Prop} {H : Heap} {xs : Nat → Int32} {I : Nat}
theorem l_nums {a t lo N : Nat} {T : kT} {q : Int × Int} (hG : kgood D cA k_tt Ty lo H) (ht : Ty a t) (hT : k_tt[t]? = some T) (hr : (0, 1, N, (.inl [q] : kP)) ∈ T.2.2.1) : ∃ (V : Nat → Value) (f : Nat → Int32), kcell D cA T a H V ∧ ∀ j, j < N → V j = .int (f j) ∧ q.1 ≤ (f j).toInt ∧ (f j).toInt ≤ q.2 := by
  obtain ⟨-, V, hc, hv⟩ := hG.1 a t T ht hT
  refine ⟨V, fun j => match V j with
    | .int z => z
    | _ => 0, hc, fun j hj => ?_⟩
  obtain ⟨z, e, q', hq, b⟩ := hv.1 _ hr j hj
  have hq := List.mem_singleton.mp hq
  subst hq
  have e : V (0 + 1 * j) = .int z := e
  rw [Nat.zero_add, Nat.one_mul] at e
  try dsimp only
  rw [e]
  exact ⟨rfl, b.1, b.2⟩
theorem lRt3 {a4 a5 : Nat} (t4 : Ty a4 51) (t5 : Ty a5 52) : kRt Ty [a4, a5] [51, 52] := ⟨rfl, fun k t a hk ha => by
  match k, hk, ha with
  | 0, hk, ha => cases hk; cases ha; exact t4
  | 1, hk, ha => cases hk; cases ha; exact t5
  | k + 2, hk, ha => cases hk⟩
theorem lr51 : (0, 1, 4, (.inl [(-1, 60)] : kP)) ∈ lT51.2.2.1 := lrun_ok (i := 0) (by decide +kernel)
theorem lr52 : (0, 1, 4, (.inl [(0, 3)] : kP)) ∈ lT52.2.2.1 := lrun_ok (i := 0) (by decide +kernel)
set_option maxHeartbeats 4000000 in
theorem l_stR {lo a a1 a2 a3 a4 a5 : Nat} (hTy : kTyp k_tt Ty) (hG : kgood D cA k_tt Ty lo H) (hm : lmd D cA k_tt a1 a2 a3 H) (h36 : ∀ V : Nat → Value, kcell D cA lT36 a1 H V → V 34 = .ref a4 ∧ V 35 = .ref a5) (t0 : Ty a 0) (t1 : Ty a1 36) (t2 : Ty a2 37) (t3 : Ty a3 38) (t4 : Ty a4 51) (t5 : Ty a5 52) : ∃ (ev : List Int) (Vm Vw : Nat → Value) (fm fw : Nat → Int32), kst D cA k_tt Ty (lenv xs I ++ ev) [a, a1, a2, a3, a4, a5] (lsk lsR []) H [] [] ∧ (∀ s0 ∈ stW, okE (lenv xs I ++ ev) s0) ∧ kcell D cA lT51 a4 H Vm ∧ kcell D cA lT52 a5 H Vw ∧ (∀ j, j < 4 → Vm j = .int (fm j) ∧ Vw j = .int (fw j) ∧ (lenv xs I ++ ev)[26 + j]? = some (fm j).toInt ∧ (lenv xs I ++ ev)[30 + j]? = some (fw j).toInt) := by
  obtain ⟨ev, z1, z2⟩ := l_stW (xs := xs) (I := I) (a := a) hTy hG hm lT36_at t0 t1 t2 t3
  have hl : (lenv xs I ++ ev).length = 26 := z1.1.1
  obtain ⟨Vm, fm, cm, hm4⟩ := l_nums hG t4 lT51_at lr51
  obtain ⟨Vw, fw, cw, hw4⟩ := l_nums hG t5 lT52_at lr52
  obtain ⟨-, V, hc, -⟩ := hG.1 a1 36 _ t1 lT36_at
  obtain ⟨e34, e35⟩ := h36 V hc
  have y : ∀ (E : List Int) (k : Nat) (z : Int), E[k]? = some z → (lenv xs I ++ ev ++ E)[26 + k]? = some z := fun E k z hk => by
    rw [List.getElem?_append_right (by omega), hl, Nat.add_sub_cancel_left]
    exact hk
  have Y := y [(fm 0).toInt, (fm 1).toInt, (fm 2).toInt, (fm 3).toInt, (fw 0).toInt, (fw 1).toInt, (fw 2).toInt, (fw 3).toInt]
  have b0 := hm4 0 (by decide)
  have b1 := hm4 1 (by decide)
  have b2 := hm4 2 (by decide)
  have b3 := hm4 3 (by decide)
  have d0 := hw4 0 (by decide)
  have d1 := hw4 1 (by decide)
  have d2 := hw4 2 (by decide)
  have d3 := hw4 3 (by decide)
  have p1 : 4 ≤ lT51.2.1 := by rw [lT51_n]; decide
  have p2 : 4 ≤ lT52.2.1 := by rw [lT52_n]; decide
  refine ⟨ev ++ [(fm 0).toInt, (fm 1).toInt, (fm 2).toInt, (fm 3).toInt, (fw 0).toInt, (fw 1).toInt, (fw 2).toInt, (fw 3).toInt], Vm, Vw, fm, fw, ?_, (fun s0 hs => by rw [← List.append_assoc]; exact okE_ext (z2 s0 hs)), cm, cw, fun j hj => ?_⟩
  · rw [← List.append_assoc]
    refine lsx_ok (u := [a4, a5]) z1 (kI_cons b0.2 (kI_cons b1.2 (kI_cons b2.2 (kI_cons b3.2 (kI_cons d0.2 (kI_cons d1.2 (kI_cons d2.2 (kI_cons d3.2 kI_nil)))))))) (lRt3 t4 t5) ?_
    exact List.forall_mem_cons.mpr ⟨l_fct (j := 34) hTy rfl t1 lT36_at hc (by rw [lT36_n]; decide) ⟨a4, e34, rfl⟩, List.forall_mem_cons.mpr ⟨l_fct (j := 35) hTy rfl t1 lT36_at hc (by rw [lT36_n]; decide) ⟨a5, e35, rfl⟩, List.forall_mem_cons.mpr ⟨l_fct (j := 0) hTy rfl t4 lT51_at cm (by omega) ⟨_, b0.1, ksym_ev (Y 0 _ rfl)⟩, List.forall_mem_cons.mpr ⟨l_fct (j := 1) hTy rfl t4 lT51_at cm (by omega) ⟨_, b1.1, ksym_ev (Y 1 _ rfl)⟩, List.forall_mem_cons.mpr ⟨l_fct (j := 2) hTy rfl t4 lT51_at cm (by omega) ⟨_, b2.1, ksym_ev (Y 2 _ rfl)⟩, List.forall_mem_cons.mpr ⟨l_fct (j := 3) hTy rfl t4 lT51_at cm (by omega) ⟨_, b3.1, ksym_ev (Y 3 _ rfl)⟩, List.forall_mem_cons.mpr ⟨l_fct (j := 0) hTy rfl t5 lT52_at cw (by omega) ⟨_, d0.1, ksym_ev (Y 4 _ rfl)⟩, List.forall_mem_cons.mpr ⟨l_fct (j := 1) hTy rfl t5 lT52_at cw (by omega) ⟨_, d1.1, ksym_ev (Y 5 _ rfl)⟩, List.forall_mem_cons.mpr ⟨l_fct (j := 2) hTy rfl t5 lT52_at cw (by omega) ⟨_, d2.1, ksym_ev (Y 6 _ rfl)⟩, List.forall_mem_cons.mpr ⟨l_fct (j := 3) hTy rfl t5 lT52_at cw (by omega) ⟨_, d3.1, ksym_ev (Y 7 _ rfl)⟩, fun _ h => absurd h List.not_mem_nil⟩⟩⟩⟩⟩⟩⟩⟩⟩⟩
  · rw [← List.append_assoc]
    refine ⟨(hm4 j hj).1, (hw4 j hj).1, ?_⟩
    match j, hj with
    | 0, _ => exact ⟨Y 0 _ rfl, Y 4 _ rfl⟩
    | 1, _ => exact ⟨Y 1 _ rfl, Y 5 _ rfl⟩
    | 2, _ => exact ⟨Y 2 _ rfl, Y 6 _ rfl⟩
    | 3, _ => exact ⟨Y 3 _ rfl, Y 7 _ rfl⟩
    | j + 4, hj => omega
end LSTR
def wrK : kW := [(51, none), (52, none), (53, none)]
def lrj (K j : Nat) (S : kS) : Bool := match Nat.beq j K with
  | true => lz S 4 j (fun f => kLeq f (ksym 2)) && lz S 5 j (fun f => kLeq f (ksym 1))
  | false => lz S 4 j (fun f => kLeq f (ksym (26 + j))) && lz S 5 j (fun f => kLeq f (ksym (30 + j)))
def lrend (K : Nat) (S : kS) : Bool := lend wrK stW S && (lrj K 0 S && (lrj K 1 S && (lrj K 2 S && lrj K 3 S)))
def lrowd (ow : kOw) (cal : List (Nat × List Nat)) (K pc iB : Nat) : Bool := match kinv k_tt k_aty k_ctX ow cal wrK 2000 pc (.invokevirtual iB) (lsk (lq3 lsR ((K : Int), (K : Int)) (0, 3) (0, 60)) ((lav 3).reverse ++ [.inr (.inr (.inl 1))])) with
  | some L => L.all (fun S' => match S'.2.2.2.1 with
    | [v] => lkind false v && lrend K S'
    | _ => false)
  | none => false
section LROWV
variable {p : Program} {l : Launch} {e : Env} {R : Room} {s : State} {m : MethodId} {args : Array Value} {below : List Frame} {meth : Method} {c : Code} {H : Heap} {locs : List Loc} {cells slots : Nat} {Q : State → Prop}
variable {cc : ByteArray} {pc : Nat} {ls : Array Slot} {b L I n K : Nat} {i : Int32} {xs : Nat → Int32}
variable {cA aS adV : Nat → Nat} {D : va_G}
set_option maxHeartbeats 4000000 in
theorem lrow_v {own : String} {ow : kOw} {calC calM : List (Nat × List Nat)} {nL iA iB : Nat} (hexec : p.tables.exec = Jvm.exec) (hb : c.code = cc) (hml : c.maxLocals = nL) (hR : 2048 ≤ R.frames ∧ 84000 ≤ R.locals) (hcs : cells ≤ R.cells ∧ slots ≤ R.slots) (hown : s.vm.findClass own = some m.cls) (hts : ∀ w ∈ k_lg, w.before args s = true) (how : kOwM own ow k_cl (k_mw.map (fun x => x.1)) k_lg k_ns) (hK : kK k_cl k_aty k_ns k_sk D cA aS s) (hXs : sX aS adV n s s.heap) (hM : ∀ (i : Nat) (C : kCt), k_ctX[i]? = some C → kMet l k_cl k_aty k_lg k_ns k_sk (k_mw.map (fun x => x.1)) D cA aS k_tt (sTy n k_tl aS) n (sX aS adV n) C) (hconst : (Cond.constantLong own 287 4294967295).before args s = true)
    (hK4 : K < 4) (hdec : lcdP cc pc 3 false iA iB) (hchkC : lrowb ow calC K (pc + 1 + laln 3) iA = true) (hchkM : lrowd ow calM K (pc + 1 + laln 3 + 3 + 1 + 1 + laln 3) iB = true)
    (hi : i.toInt = (I : Int)) (hIL : I + 6 ≤ L) (hL : L ≤ 100000) (hls : ls.size = nL) (h0 : ls[0]? = some (.val (.ref b))) (h1 : ls[1]? = some (.val (.ref n))) (h2 : ls[2]? = some (.val (.ref (n + 109)))) (h3 : ls[3]? = some (.val (.int i)))
    (z0 : (xs (I + 1)).toInt = (K : Int)) (z1 : 0 ≤ (xs (I + 2)).toInt ∧ (xs (I + 2)).toInt ≤ 3) (z2 : 0 ≤ (xs (I + 3)).toInt ∧ (xs (I + 3)).toInt ≤ 60)
    (hblo : b < n) (hscr : va_X b L xs s s.heap) (hfr : ∀ q, q < n → H[q]? = s.heap[q]?) (hG : kgood D cA k_tt (sTy n k_tl aS) n H) (hm : lmd D cA k_tt (n + 109) (n + 110) (n + 111) H) (hr : lrw D cA n H)
    (h37 : ∀ T : kT, k_tt[37]? = some T → 10 < T.2.1) (h38 : ∀ T : kT, k_tt[38]? = some T → 240 < T.2.1)
    (kk : ∀ (H' : Heap) (L' : List Loc), kgood D cA k_tt (sTy n k_tl aS) n H' → kfr n H H' → lmd D cA k_tt (n + 109) (n + 110) (n + 111) H' → lrw D cA n H' → (∀ q ∈ L', n ≤ q.base) → W p l e R s m args below meth c H' (locs ++ L') cells slots Q (F0 m 2121 ls [])) : W p l e R s m args below meth c H locs cells slots Q (F0 m pc ls []) := by
  obtain ⟨d0, d1, d2, d3, d4, d5, d6, d7, d8⟩ := hdec
  have hkd : lkok 3 := Or.inr (Or.inr (Or.inr (Or.inl rfl)))
  have hX : kXok (sX aS adV n) n := sX_ok
  have hT : kTyp k_tt (sTy n k_tl aS) := sTy_typ
  have t2 : sTy n k_tl aS (n + 110) 37 := Or.inl ⟨110, rfl, rfl⟩
  have t3 : sTy n k_tl aS (n + 111) 38 := Or.inl ⟨111, rfl, rfl⟩
  refine lv_aload_n hexec hb d0 rfl h1 ?_
  refine l_args hexec hb hown hconst hkd d1 h0 h3 (va_X.kept hscr (hfr b hblo)) hi hIL hL ?_
  refine lrow_c hexec hb hml hR hcs hown hts how hK hXs hK4 hchkC d2 hls z0 z1 z2 hfr hG hr (fun v x y H1 L1 g1 g2 g3 g4 g5 g6 g7 => ?_)
  have g2 : ∃ u, kvok (lenv xs I ++ x) u v y := g2.elim (fun h => ⟨_, h⟩) id
  obtain ⟨u, g2⟩ := g2
  have hfr1 : ∀ q, q < n → H1[q]? = s.heap[q]? := fun q hq => (g4.2 q hq).trans (hfr q hq)
  have ne : ∀ k, k < 52 ∨ k = 52 ∨ 60 < k → n + k ≠ n + (53 + 2 * K) ∧ n + k ≠ n + (54 + 2 * K) := fun k hk => ⟨by omega, by omega⟩
  have hm1 : lmd D cA k_tt (n + 109) (n + 110) (n + 111) H1 := by
    refine ⟨fun T V hT2 hV => ?_, fun T V hT2 hV => ?_, fun T V hT2 hV => ?_⟩
    · obtain ⟨V0, c0, e0⟩ := g5 (n + 109) 36 T V rt36 hT2 (ne 109 (by omega)).1 (ne 109 (by omega)).2 hV
      have hN := hT.2.2.2.1 T hT2
      rw [e0 1 (by omega), e0 2 (by omega)]
      exact hm.1 T V0 hT2 c0
    · obtain ⟨V0, c0, e0⟩ := g5 (n + 110) 37 T V t2 hT2 (ne 110 (by omega)).1 (ne 110 (by omega)).2 hV
      exact okb_congr (h37 T hT2) e0 (hm.2.1 T V0 hT2 c0)
    · obtain ⟨V0, c0, e0⟩ := g5 (n + 111) 38 T V t3 hT2 (ne 111 (by omega)).1 (ne 111 (by omega)).2 hV
      have h240 := h38 T hT2
      obtain ⟨o0, o1, o2⟩ := hm.2.2 T V0 hT2 c0
      exact ⟨okb_congr (by omega) e0 o0, okb_congr (by omega) e0 o1, okb_congr (by omega) e0 o2⟩
  have h36 : ∀ V : Nat → Value, kcell D cA lT36 (n + 109) H1 V → V 34 = .ref (n + 124) ∧ V 35 = .ref (n + 125) := fun V hV => by
    obtain ⟨V0, c0, e0⟩ := g5 (n + 109) 36 lT36 V rt36 lT36_at (ne 109 (by omega)).1 (ne 109 (by omega)).2 hV
    rw [e0 34 (by rw [lT36_n]; decide), e0 35 (by rw [lT36_n]; decide)]
    exact hr.2.2.1 V0 c0
  refine l_popv hexec hb g1 g2 d3 ?_
  refine lv_aload_n hexec hb d4 rfl h2 ?_
  refine l_args hexec hb hown hconst hkd d5 h0 h3 (va_X.kept hscr (hfr1 b hblo)) hi hIL hL ?_
  obtain ⟨ev, Vm, Vw, fm, fw, s1, s2, cm, cw, hmw⟩ := l_stR (xs := xs) (I := I) (a := n) hT g3 hm1 h36 rt0 rt36 t2 t3 rt51 rt52
  have s3 := lq3_ok (q0 := ((K : Int), (K : Int))) (q1 := (0, 3)) (q2 := (0, 60)) s1 ⟨by show (K : Int) ≤ (xs (I + 1)).toInt; omega, by show (xs (I + 1)).toInt ≤ (K : Int); omega⟩ z1 z2
  have s4 : kst D cA k_tt (sTy n k_tl aS) (lenv xs I ++ ev) [n, n + 109, n + 110, n + 111, n + 124, n + 125] (lsk (lq3 lsR ((K : Int), (K : Int)) (0, 3) (0, 60)) ((lav 3).reverse ++ [.inr (.inr (.inl 1))])) H1 [] ((lvs xs I 3).reverse ++ [.ref (n + 109)]) := ⟨s3.1, s3.2.1, s3.2.2.1, trivial, kStk_app (lav_okE hkd) ⟨⟨n + 109, rfl, rfl⟩, trivial⟩, s3.2.2.2.2.2⟩
  unfold lrowd at hchkM
  split at hchkM
  case h_2 => cases hchkM
  rename_i LB hLB
  refine linv_ok hexec hb hml ⟨Nat.le_refl _, hR⟩ hcs hown hts k_lg_good how hK k_nsn hX hXs hT g3 hfr1 hM s4 hls d6 hLB (fun S2 hS2 x2 u2 st2 H2 L2 q1 q2 q3 q4 q5 => ?_)
  have hc3 := List.all_eq_true.mp hchkM S2 hS2
  split at hc3
  case h_2 => cases hc3
  rename_i w hw
  unfold lrend at hc3
  simp only [Bool.and_eq_true] at hc3
  obtain ⟨k0, k1, k2, k3, k4, k5⟩ := hc3
  have hk2 := q5.2.2.2.2.1
  rw [hw] at hk2
  match st2, hk2 with
  | [], hk2 => exact hk2.elim
  | _ :: _ :: _, hk2 => exact hk2.2.elim
  | [zz], hk2 =>
  refine l_popv hexec hb k0 hk2.1 d7 ?_
  refine lv_goto (tgt := 2121) hexec hb d8 (by omega) ?_
  have hmd := lend_ok hT h37 h38 g3 hm1 q3 q5 (fun s0 hs => okE_ext (s2 s0 hs)) rfl rfl rfl rt36 t2 t3 k1
  have nw : ∀ (t : Nat), t < 51 → ∀ w ∈ wrK, w.1 ≠ t := fun t ht w hw e => by
    have hw2 := (show ∀ w ∈ wrK, 51 ≤ w.1 by decide) w hw
    omega
  have K2 : ∀ (a t : Nat) (T : kT) (V' : Nat → Value), sTy n k_tl aS a t → k_tt[t]? = some T → t < 51 → a ≠ n + (53 + 2 * K) → a ≠ n + (54 + 2 * K) → kcell D cA T a H2 V' → ∃ V, kcell D cA T a H V ∧ ∀ j, j < T.2.1 → V' j = V j := fun a t T V' y1 y2 y3 y4 y5 y6 => by
    obtain ⟨V1, c1, e1⟩ := kkp_all g3 q3 (nw t y3) y1 y2 y6
    obtain ⟨V0, c0, e0⟩ := g5 a t T V1 y1 y2 y4 y5 c1
    exact ⟨V0, c0, fun j hj => (e1 j hj).trans (e0 j hj)⟩
  have RK : ∀ V : Nat → Value, kcell D cA lT30 (n + (53 + 2 * K)) H2 V → V 0 = .int (xs (I + 2)) ∧ V 1 = .int (xs (I + 3)) ∧ V 2 = .ref (n + (54 + 2 * K)) := fun V hV => by
    obtain ⟨V1, c1, e1⟩ := kkp_all g3 q3 (nw 30 (by decide)) (rt30 hK4) lT30_at hV
    rw [e1 0 (by rw [lT30_n]; decide), e1 1 (by rw [lT30_n]; decide), e1 2 (by rw [lT30_n]; decide)]
    exact g6 V1 c1
  have MJ : ∀ j, j < 4 → ∀ Vm2 Vw2 : Nat → Value, kcell D cA lT51 (n + 124) H2 Vm2 → kcell D cA lT52 (n + 125) H2 Vw2 → (j = K → Vm2 j = .int (xs (I + 3)) ∧ Vw2 j = .int (xs (I + 2))) ∧ (j ≠ K → Vm2 j = Vm j ∧ Vw2 j = Vw j) := fun j hj Vm2 Vw2 y1 y2 => by
    have hj2 : lrj K j S2 = true := by
      match j, hj with
      | 0, _ => exact k2
      | 1, _ => exact k3
      | 2, _ => exact k4
      | 3, _ => exact k5
      | j + 4, hj => omega
    obtain ⟨m1, m2, m3, m4⟩ := hmw j hj
    unfold lrj at hj2
    cases hb2 : Nat.beq j K with
    | true =>
      have ej := Nat.beq_eq.mp hb2
      simp only [hb2, Bool.and_eq_true] at hj2
      obtain ⟨n0, f0, a0, b0, e0⟩ := lz_ok hT q5 (a := n + 124) rfl rt51 lT51_at y1 hj2.1
      obtain ⟨n1, f1, a1, b1, e1⟩ := lz_ok hT q5 (a := n + 125) rfl rt52 lT52_at y2 hj2.2
      have r0 := kLeq_val e0 b0 (ksym_ev (show (lenv xs I ++ ev ++ x2)[2]? = some (xs (I + 3)).toInt from rfl))
      have r1 := kLeq_val e1 b1 (ksym_ev (show (lenv xs I ++ ev ++ x2)[1]? = some (xs (I + 2)).toInt from rfl))
      exact ⟨fun _ => ⟨by rw [a0, Int32.toInt_inj.mp r0], by rw [a1, Int32.toInt_inj.mp r1]⟩, fun h => absurd ej h⟩
    | false =>
      simp only [hb2, Bool.and_eq_true] at hj2
      obtain ⟨n0, f0, a0, b0, e0⟩ := lz_ok hT q5 (a := n + 124) rfl rt51 lT51_at y1 hj2.1
      obtain ⟨n1, f1, a1, b1, e1⟩ := lz_ok hT q5 (a := n + 125) rfl rt52 lT52_at y2 hj2.2
      have r0 := kLeq_val e0 b0 (ksym_ev (kget_ext m3))
      have r1 := kLeq_val e1 b1 (ksym_ev (kget_ext m4))
      refine ⟨fun h => ?_, fun _ => ⟨by rw [a0, m1, Int32.toInt_inj.mp r0], by rw [a1, m2, Int32.toInt_inj.mp r1]⟩⟩
      subst h
      rw [Nat.beq_refl] at hb2
      cases hb2
  have hrw : lrw D cA n H2 := by
    refine ⟨fun V hV => ?_, fun V hV j hj => ?_, fun V hV => ?_, fun j hj V hV => ?_, fun j hj V Vm2 Vw2 hV hm2 hw2 => ?_⟩
    · obtain ⟨V0, c0, e0⟩ := K2 n 0 lT0 V rt0 lT0_at (by decide) (by omega) (by omega) hV
      rw [e0 9 (by rw [lT0_n]; decide)]
      exact hr.1 V0 c0
    · obtain ⟨V0, c0, e0⟩ := K2 (n + 52) 32 lT32 V rt32 lT32_at (by decide) (by omega) (by omega) hV
      rw [e0 j (by rw [lT32_n]; exact hj)]
      exact hr.2.1 V0 c0 j hj
    · obtain ⟨V0, c0, e0⟩ := K2 (n + 109) 36 lT36 V rt36 lT36_at (by decide) (by omega) (by omega) hV
      rw [e0 34 (by rw [lT36_n]; decide), e0 35 (by rw [lT36_n]; decide)]
      exact hr.2.2.1 V0 c0
    · by_cases hjK : j = K
      · subst hjK
        exact (RK V hV).2.2
      · obtain ⟨V0, c0, e0⟩ := K2 _ 30 lT30 V (rt30 hj) lT30_at (by decide) (by omega) (by omega) hV
        rw [e0 2 (by rw [lT30_n]; decide)]
        exact hr.2.2.2.1 j hj V0 c0
    · obtain ⟨y1, y2⟩ := MJ j hj Vm2 Vw2 hm2 hw2
      by_cases hjK : j = K
      · subst hjK
        obtain ⟨r0, r1, -⟩ := RK V hV
        obtain ⟨r2, r3⟩ := y1 rfl
        exact Or.inr ⟨xs (I + 2), xs (I + 3), r0, r1, r2, r3, z1, z2⟩
      · obtain ⟨r2, r3⟩ := y2 hjK
        obtain ⟨V0, c0, e0⟩ := K2 _ 30 lT30 V (rt30 hj) lT30_at (by decide) (by omega) (by omega) hV
        rw [e0 0 (by rw [lT30_n]; decide), e0 1 (by rw [lT30_n]; decide), r2, r3]
        obtain ⟨V3, c3, e3⟩ := g5 (n + 124) 51 lT51 Vm rt51 lT51_at (ne 124 (by omega)).1 (ne 124 (by omega)).2 cm
        obtain ⟨V4, c4, e4⟩ := g5 (n + 125) 52 lT52 Vw rt52 lT52_at (ne 125 (by omega)).1 (ne 125 (by omega)).2 cw
        rw [e3 j (by rw [lT51_n]; exact hj), e4 j (by rw [lT52_n]; exact hj)]
        exact hr.2.2.2.2 j hj V0 V3 V4 c0 c3 c4
  rw [List.append_assoc]
  exact kk H2 (L1 ++ L2) q1 (kfr_trans g4 q2) hmd hrw (fun q hq => (List.mem_append.mp hq).elim (g7 q) (q4 q))
end LROWV
