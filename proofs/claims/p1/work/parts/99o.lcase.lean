/-! THE LAW'S CASES: two calls with the same arguments out of the script, their answers compared -/
def lwl (a b : Int32) : Int64 := (a.toInt64 <<< ((32 : Int32).toInt64 &&& 63)) ||| (b.toInt64 &&& 4294967295)
/-- the arguments by their kind: as many numbers, or (9) two numbers and a long -/
def lvs (xs : Nat → Int32) (i kd : Nat) : List Value := match kd with
  | 1 => [.int (xs (i + 1))]
  | 2 => [.int (xs (i + 1)), .int (xs (i + 2))]
  | 3 => [.int (xs (i + 1)), .int (xs (i + 2)), .int (xs (i + 3))]
  | 5 => [.int (xs (i + 1)), .int (xs (i + 2)), .int (xs (i + 3)), .int (xs (i + 4)), .int (xs (i + 5))]
  | 9 => [.int (xs (i + 1)), .int (xs (i + 2)), .long (lwl (xs (i + 3)) (xs (i + 4)))]
  | _ => []
def lav (kd : Nat) : List kV := match kd with
  | 1 => [.inl (ksym 0)]
  | 2 => [.inl (ksym 0), .inl (ksym 1)]
  | 3 => [.inl (ksym 0), .inl (ksym 1), .inl (ksym 2)]
  | 5 => [.inl (ksym 0), .inl (ksym 1), .inl (ksym 2), .inl (ksym 3), .inl (ksym 4)]
  | 9 => [.inl (ksym 0), .inl (ksym 1), .inr (.inl (ksym 5))]
  | _ => []
def lenv (xs : Nat → Int32) (i : Nat) : List Int := [(xs (i + 1)).toInt, (xs (i + 2)).toInt, (xs (i + 3)).toInt, (xs (i + 4)).toInt, (xs (i + 5)).toInt, (lwl (xs (i + 3)) (xs (i + 4))).toInt]
def lst (F : List kF) (st : List kV) : kS := ([k32, k32, k32, k32, k32, k64], [0, 36, 1], [], st, F, [])
def lgrp (pc : Nat) (k : Int) : kCd := [(pc, .aload_n 0, 1), (pc + 1, .iload_n 3, 1), (pc + 2, .iconst k, 1), (pc + 3, .iadd, 1), (pc + 4, .iaload, 1)]
def lwri (pc : Nat) : kCd := [(pc + 15, .i2l, 1), (pc + 16, .bipush 32, 2), (pc + 18, .lshl, 1), (pc + 24, .i2l, 1), (pc + 25, .ldc2_w 287, 3), (pc + 28, .land, 1), (pc + 29, .lor, 1)]
def lar (pc kd : Nat) : kCd := match kd with
  | 1 => lgrp pc 1
  | 2 => lgrp pc 1 ++ lgrp (pc + 5) 2
  | 3 => lgrp pc 1 ++ (lgrp (pc + 5) 2 ++ lgrp (pc + 10) 3)
  | 5 => lgrp pc 1 ++ (lgrp (pc + 5) 2 ++ (lgrp (pc + 10) 3 ++ (lgrp (pc + 15) 4 ++ lgrp (pc + 20) 5)))
  | 9 => lgrp pc 1 ++ (lgrp (pc + 5) 2 ++ (lgrp (pc + 10) 3 ++ (lgrp (pc + 19) 4 ++ lwri pc)))
  | _ => []
def laln (kd : Nat) : Nat := match kd with
  | 1 => 5
  | 2 => 10
  | 3 => 15
  | 5 => 25
  | 9 => 30
  | _ => 0
def lkok (kd : Nat) : Prop := kd = 0 ∨ kd = 1 ∨ kd = 2 ∨ kd = 3 ∨ kd = 5 ∨ kd = 9
theorem lav_ok {xs : Nat → Int32} {i kd : Nat} {ren : List Nat} (h : lkok kd) : kStk (lenv xs i) ren (lav kd) (lvs xs i kd) := by
  have e0 : kvok (lenv xs i) ren (.inl (ksym 0)) (.int (xs (i + 1))) := ⟨_, rfl, ksym_ev rfl⟩
  have e1 : kvok (lenv xs i) ren (.inl (ksym 1)) (.int (xs (i + 2))) := ⟨_, rfl, ksym_ev rfl⟩
  have e2 : kvok (lenv xs i) ren (.inl (ksym 2)) (.int (xs (i + 3))) := ⟨_, rfl, ksym_ev rfl⟩
  have e3 : kvok (lenv xs i) ren (.inl (ksym 3)) (.int (xs (i + 4))) := ⟨_, rfl, ksym_ev rfl⟩
  have e4 : kvok (lenv xs i) ren (.inl (ksym 4)) (.int (xs (i + 5))) := ⟨_, rfl, ksym_ev rfl⟩
  have e5 : kvok (lenv xs i) ren (.inr (.inl (ksym 5))) (.long (lwl (xs (i + 3)) (xs (i + 4)))) := ⟨_, rfl, ksym_ev rfl⟩
  rcases h with rfl | rfl | rfl | rfl | rfl | rfl
  · exact trivial
  · exact ⟨e0, trivial⟩
  · exact ⟨e0, e1, trivial⟩
  · exact ⟨e0, e1, e2, trivial⟩
  · exact ⟨e0, e1, e2, e3, e4, trivial⟩
  · exact ⟨e0, e1, e5, trivial⟩
theorem kStk_app {env : List Int} {ren : List Nat} : ∀ {l l' : List kV} {m m' : List Value}, kStk env ren l m → kStk env ren l' m' → kStk env ren (l ++ l') (m ++ m')
  | [], l', [], m', _, h' => h'
  | [], _, _ :: _, _, h, _ => h.elim
  | _ :: _, _, [], _, h, _ => h.elim
  | a :: l, l', b :: m, m', h, h' => ⟨h.1, kStk_app h.2 h'⟩
theorem kStk_rev {env : List Int} {ren : List Nat} : ∀ {l : List kV} {m : List Value}, kStk env ren l m → kStk env ren l.reverse m.reverse
  | [], [], _ => trivial
  | [], _ :: _, h => h.elim
  | _ :: _, [], h => h.elim
  | a :: l, b :: m, h => by
    rw [List.reverse_cons, List.reverse_cons]
    exact kStk_app (kStk_rev h.2) ⟨h.1, trivial⟩
theorem lenv_in {xs : Nat → Int32} {i : Nat} : kI (lenv xs i) [k32, k32, k32, k32, k32, k64] := by
  refine ⟨rfl, fun k q z hq hz => ?_⟩
  match k, hq, hz with
  | 0, hq, hz => cases hq; cases hz; exact k32_in _
  | 1, hq, hz => cases hq; cases hz; exact k32_in _
  | 2, hq, hz => cases hq; cases hz; exact k32_in _
  | 3, hq, hz => cases hq; cases hz; exact k32_in _
  | 4, hq, hz => cases hq; cases hz; exact k32_in _
  | 5, hq, hz => cases hq; cases hz; exact k64_in _
  | k + 6, hq, hz => cases hq
/-- what the case's code is -/
def lcdok (cc : ByteArray) (pc kd : Nat) (lg : Bool) (iA iB : Nat) : Prop :=
  decode cc pc = .ok (.aload_n 1, 1) ∧ (∀ q ∈ lar (pc + 1) kd, decode cc q.1 = .ok (q.2.1, q.2.2)) ∧ decode cc (pc + 1 + laln kd) = .ok (.invokevirtual iA, 3) ∧ decode cc (pc + 1 + laln kd + 3) = .ok (.aload_n 2, 1) ∧ (∀ q ∈ lar (pc + 1 + laln kd + 3 + 1) kd, decode cc q.1 = .ok (q.2.1, q.2.2)) ∧ decode cc (pc + 1 + laln kd + 3 + 1 + laln kd) = .ok (.invokevirtual iB, 3) ∧
  (lg = false → decode cc (pc + 1 + laln kd + 3 + 1 + laln kd + 3) = .ok (.if_icmp .eq (2122 - ((pc + 1 + laln kd + 3 + 1 + laln kd + 3 : Nat) : Int)), 3)) ∧
  (lg = true → decode cc (pc + 1 + laln kd + 3 + 1 + laln kd + 3) = .ok (.lcmp, 1) ∧ decode cc (pc + 1 + laln kd + 3 + 1 + laln kd + 3 + 1) = .ok (.ifCond .eq (2122 - ((pc + 1 + laln kd + 3 + 1 + laln kd + 3 + 1 : Nat) : Int)), 3))
def lkind (lg : Bool) (v : kV) : Bool := match lg, v with
  | false, .inl _ => true
  | true, .inr (.inl _) => true
  | _, _ => false
/-- both calls by their contracts: the answers are the same -/
def lcase (tt : List kT) (aty : List FieldType) (ct : List kCt) (ow : kOw) (cal : List (Nat × List Nat)) (wr : kW) (F : List kF) (pc kd : Nat) (lg : Bool) (iA iB : Nat) : Bool := match kinv tt aty ct ow cal wr 2000 (pc + 1 + laln kd) (.invokevirtual iA) (lst F ((lav kd).reverse ++ [.inr (.inr (.inl 0))])) with
  | some L => L.all (fun S => match kinv tt aty ct ow cal wr 2000 (pc + 1 + laln kd + 3 + 1 + laln kd) (.invokevirtual iB) (S.1, S.2.1, [], (lav kd).reverse ++ .inr (.inr (.inl 1)) :: S.2.2.2.1, S.2.2.2.2) with
    | some L2 => L2.all (fun S2 => match S2.2.2.2.1 with
      | [v, w] => lkind lg v && kveq S2 v w
      | _ => false)
    | none => false)
  | none => false
theorem kvok_uniq {env : List Int} {ren : List Nat} {lg : Bool} {v : kV} {x y : Value} (hk : lkind lg v = true) (hx : kvok env ren v x) (hy : kvok env ren v y) : x = y ∧ (lg = false → ∃ n, x = .int n) ∧ (lg = true → ∃ n, x = .long n) := by
  match lg, v, hk, hx, hy with
  | false, .inl f, _, ⟨n, e1, e2⟩, ⟨n', e3, e4⟩ =>
    have e : n = n' := Int32.toInt_inj.mp (Option.some.inj (e2.symm.trans e4))
    subst e
    exact ⟨e1.trans e3.symm, fun _ => ⟨n, e1⟩, fun h => by cases h⟩
  | true, .inr (.inl f), _, ⟨n, e1, e2⟩, ⟨n', e3, e4⟩ =>
    have e : n = n' := Int64.toInt_inj.mp (Option.some.inj (e2.symm.trans e4))
    subst e
    exact ⟨e1.trans e3.symm, fun h => (by cases h), fun _ => ⟨n, e1⟩⟩
  | false, .inr _, hk, _, _ => cases hk
  | true, .inl _, hk, _, _ => cases hk
  | true, .inr (.inr _), hk, _, _ => cases hk
section LCASE
variable {p : Program} {l : Launch} {e : Env} {R : Room} {s : State} {m : MethodId} {args : Array Value} {below : List Frame} {meth : Method} {c : Code} {H : Heap} {locs : List Loc} {cells slots : Nat} {Q : State → Prop}
variable {cc : ByteArray} {pc : Nat} {ls : Array Slot} {b L I : Nat} {i : Int32} {xs : Nat → Int32} {st : List Value}
/-- a number of the script -/
theorem l_grp {k : Int} {j : Nat} (hexec : p.tables.exec = Jvm.exec) (hb : c.code = cc) (hg : ∀ q ∈ lgrp pc k, decode cc q.1 = .ok (q.2.1, q.2.2)) (h0 : ls[0]? = some (.val (.ref b))) (h3 : ls[3]? = some (.val (.int i))) (hX : va_X b L xs s H) (hi : i.toInt = (I : Int)) (hk : k = (j : Int)) (hj : j < 6) (hIL : I + 6 ≤ L) (hL : L ≤ 100000)
    (kk : W p l e R s m args below meth c H locs cells slots Q (F0 m (pc + 5) ls (.int (xs (I + j)) :: st))) : W p l e R s m args below meth c H locs cells slots Q (F0 m pc ls st) := by
  have d0 := hg (pc, .aload_n 0, 1) (List.mem_cons_self)
  have d1 := hg (pc + 1, .iload_n 3, 1) (List.mem_cons_of_mem _ List.mem_cons_self)
  have d2 := hg (pc + 2, .iconst k, 1) (List.mem_cons_of_mem _ (List.mem_cons_of_mem _ List.mem_cons_self))
  have d3 := hg (pc + 3, .iadd, 1) (List.mem_cons_of_mem _ (List.mem_cons_of_mem _ (List.mem_cons_of_mem _ List.mem_cons_self)))
  have d4 := hg (pc + 4, .iaload, 1) (List.mem_cons_of_mem _ (List.mem_cons_of_mem _ (List.mem_cons_of_mem _ (List.mem_cons_of_mem _ List.mem_cons_self))))
  dsimp only at d0 d1 d2 d3 d4
  have ek : (Int32.ofInt k).toInt = (j : Int) := by rw [hk]; exact c32 (by omega) (by omega)
  have es : (i + Int32.ofInt k).toInt = ((I + j : Nat) : Int) := by
    rw [Int32.toInt_add, hi, ek, k32_bm (by show (-2147483648 : Int) ≤ _; omega) (by show _ ≤ (2147483647 : Int); omega)]
    omega
  have en : (i + Int32.ofInt k).toNatClampNeg = I + j := by
    show (i + Int32.ofInt k).toInt.toNat = I + j
    rw [es]; rfl
  obtain ⟨scr, x1, x2, x3, x4, x5⟩ := hX
  refine lv_aload_n hexec hb d0 rfl h0 ?_
  refine lv_iload_n hexec hb d1 rfl h3 ?_
  refine lv_iconst hexec hb d2 rfl ?_
  refine lv_iadd hexec hb d3 ?_
  exact W.iald (v := .int (xs (I + j))) hexec hb x1 x2 x3 (by
    rw [x4, en, Int32.lt_iff_toInt_lt, es]
    show ¬ (((I + j : Nat) : Int) < 0 ∨ L ≤ I + j)
    omega) (by rw [en]; exact x5 _ (by omega)) rfl rfl d4 kk
/-- the arguments -/
theorem l_args {own : String} {kd : Nat} (hexec : p.tables.exec = Jvm.exec) (hb : c.code = cc) (hown : s.vm.findClass own = some m.cls) (hconst : (Cond.constantLong own 287 4294967295).before args s = true) (hkd : lkok kd) (hg : ∀ q ∈ lar pc kd, decode cc q.1 = .ok (q.2.1, q.2.2)) (h0 : ls[0]? = some (.val (.ref b))) (h3 : ls[3]? = some (.val (.int i))) (hX : va_X b L xs s H) (hi : i.toInt = (I : Int)) (hIL : I + 6 ≤ L) (hL : L ≤ 100000)
    (kk : W p l e R s m args below meth c H locs cells slots Q (F0 m (pc + laln kd) ls ((lvs xs I kd).reverse ++ st))) : W p l e R s m args below meth c H locs cells slots Q (F0 m pc ls st) := by
  rcases hkd with rfl | rfl | rfl | rfl | rfl | rfl
  · exact kk
  · exact l_grp (j := 1) hexec hb hg h0 h3 hX hi rfl (by decide) hIL hL kk
  · have hg : ∀ q ∈ lgrp pc 1 ++ lgrp (pc + 5) 2, decode cc q.1 = .ok (q.2.1, q.2.2) := hg
    obtain ⟨g1, g2⟩ := List.forall_mem_append.mp hg
    refine l_grp (j := 1) hexec hb g1 h0 h3 hX hi rfl (by decide) hIL hL ?_
    exact l_grp (j := 2) hexec hb g2 h0 h3 hX hi rfl (by decide) hIL hL kk
  · have hg : ∀ q ∈ lgrp pc 1 ++ (lgrp (pc + 5) 2 ++ lgrp (pc + 10) 3), decode cc q.1 = .ok (q.2.1, q.2.2) := hg
    obtain ⟨g1, g⟩ := List.forall_mem_append.mp hg
    obtain ⟨g2, g3⟩ := List.forall_mem_append.mp g
    refine l_grp (j := 1) hexec hb g1 h0 h3 hX hi rfl (by decide) hIL hL ?_
    refine l_grp (j := 2) hexec hb g2 h0 h3 hX hi rfl (by decide) hIL hL ?_
    exact l_grp (j := 3) hexec hb g3 h0 h3 hX hi rfl (by decide) hIL hL kk
  · have hg : ∀ q ∈ lgrp pc 1 ++ (lgrp (pc + 5) 2 ++ (lgrp (pc + 10) 3 ++ (lgrp (pc + 15) 4 ++ lgrp (pc + 20) 5))), decode cc q.1 = .ok (q.2.1, q.2.2) := hg
    obtain ⟨g1, g⟩ := List.forall_mem_append.mp hg
    obtain ⟨g2, g⟩ := List.forall_mem_append.mp g
    obtain ⟨g3, g⟩ := List.forall_mem_append.mp g
    obtain ⟨g4, g5⟩ := List.forall_mem_append.mp g
    refine l_grp (j := 1) hexec hb g1 h0 h3 hX hi rfl (by decide) hIL hL ?_
    refine l_grp (j := 2) hexec hb g2 h0 h3 hX hi rfl (by decide) hIL hL ?_
    refine l_grp (j := 3) hexec hb g3 h0 h3 hX hi rfl (by decide) hIL hL ?_
    refine l_grp (j := 4) hexec hb g4 h0 h3 hX hi rfl (by decide) hIL hL ?_
    exact l_grp (j := 5) hexec hb g5 h0 h3 hX hi rfl (by decide) hIL hL kk
  · have hg : ∀ q ∈ lgrp pc 1 ++ (lgrp (pc + 5) 2 ++ (lgrp (pc + 10) 3 ++ (lgrp (pc + 19) 4 ++ lwri pc))), decode cc q.1 = .ok (q.2.1, q.2.2) := hg
    obtain ⟨g1, g⟩ := List.forall_mem_append.mp hg
    obtain ⟨g2, g⟩ := List.forall_mem_append.mp g
    obtain ⟨g3, g⟩ := List.forall_mem_append.mp g
    obtain ⟨g4, g5⟩ := List.forall_mem_append.mp g
    have w0 := g5 (pc + 15, .i2l, 1) (List.mem_of_getElem? (i := 0) rfl)
    have w1 := g5 (pc + 16, .bipush 32, 2) (List.mem_of_getElem? (i := 1) rfl)
    have w2 := g5 (pc + 18, .lshl, 1) (List.mem_of_getElem? (i := 2) rfl)
    have w3 := g5 (pc + 24, .i2l, 1) (List.mem_of_getElem? (i := 3) rfl)
    have w4 := g5 (pc + 25, .ldc2_w 287, 3) (List.mem_of_getElem? (i := 4) rfl)
    have w5 := g5 (pc + 28, .land, 1) (List.mem_of_getElem? (i := 5) rfl)
    have w6 := g5 (pc + 29, .lor, 1) (List.mem_of_getElem? (i := 6) rfl)
    dsimp only at w0 w1 w2 w3 w4 w5 w6
    refine l_grp (j := 1) hexec hb g1 h0 h3 hX hi rfl (by decide) hIL hL ?_
    refine l_grp (j := 2) hexec hb g2 h0 h3 hX hi rfl (by decide) hIL hL ?_
    refine l_grp (j := 3) hexec hb g3 h0 h3 hX hi rfl (by decide) hIL hL ?_
    refine lv_i2l hexec hb w0 rfl ?_
    refine lv_bipush (v := 32) hexec hb w1 (by decide) ?_
    refine lv_lshl hexec hb w2 rfl ?_
    refine l_grp (j := 4) hexec hb g4 h0 h3 hX hi rfl (by decide) hIL hL ?_
    refine lv_i2l hexec hb w3 rfl ?_
    refine lv_ldc2 hexec hb hown hconst w4 ?_
    refine lv_land hexec hb w5 ?_
    exact lv_lor hexec hb w6 kk
end LCASE
section LCASE2
variable {p : Program} {l : Launch} {e : Env} {R : Room} {s : State} {m : MethodId} {args : Array Value} {below : List Frame} {meth : Method} {c : Code} {H : Heap} {locs : List Loc} {cells slots : Nat} {Q : State → Prop}
variable {cc : ByteArray} {pc : Nat} {ls : Array Slot} {b L I : Nat} {i : Int32} {xs : Nat → Int32} {st : List Value}
variable {cl : List vw_C} {aty : List FieldType} {nw lg : List Cond} {sk : kSk} {cA aS : Nat → Nat} {mt : List kMd} {X : State → Heap → Prop} {lo : Nat}
variable {D : va_G} {tt : List kT} {Ty : Nat → Nat → Prop}
set_option maxHeartbeats 4000000 in
theorem lcase_ok {own : String} {ow : kOw} {cal : List (Nat × List Nat)} {ct : List kCt} {nL kd iA iB a a1 a2 : Nat} {wr : kW} {F : List kF} {lb : Bool} (hexec : p.tables.exec = Jvm.exec) (hb : c.code = cc) (hml : c.maxLocals = nL) (hR : 2048 ≤ R.frames ∧ 84000 ≤ R.locals) (hcs : cells ≤ R.cells ∧ slots ≤ R.slots) (hown : s.vm.findClass own = some m.cls) (hts : ∀ w ∈ lg, w.before args s = true) (hlg : ∀ w ∈ lg, goodWord w = true) (how : kOwM own ow cl mt lg nw) (hK : kK cl aty nw sk D cA aS s) (hn : kNest nw) (hX : kXok X lo) (hXs : X s s.heap) (hTy : kTyp tt Ty)
    (hM : ∀ (i : Nat) (C : kCt), ct[i]? = some C → kMet l cl aty lg nw sk mt D cA aS tt Ty lo X C) (hconst : (Cond.constantLong own 287 4294967295).before args s = true)
    (hkd : lkok kd) (hdec : lcdok cc pc kd lb iA iB) (hchk : lcase tt aty ct ow cal wr F pc kd lb iA iB = true)
    (hi : i.toInt = (I : Int)) (hIL : I + 6 ≤ L) (hL : L ≤ 100000) (hls : ls.size = nL) (h0 : ls[0]? = some (.val (.ref b))) (h1 : ls[1]? = some (.val (.ref a))) (h2 : ls[2]? = some (.val (.ref a1))) (h3 : ls[3]? = some (.val (.int i)))
    (hblo : b < lo) (hscr : va_X b L xs s s.heap) (hfr : ∀ q, q < lo → H[q]? = s.heap[q]?) (hG : kgood D cA tt Ty lo H) (hst : kst D cA tt Ty (lenv xs I) [a, a1, a2] (lst F []) H [] [])
    (kk : ∀ (H' : Heap) (L' : List Loc), kgood D cA tt Ty lo H' → kfr lo H H' → (∀ q ∈ L', lo ≤ q.base) → W p l e R s m args below meth c H' (locs ++ L') cells slots Q (F0 m 2122 ls [])) : W p l e R s m args below meth c H locs cells slots Q (F0 m pc ls []) := by
  obtain ⟨d0, d1, d2, d3, d4, d5, d6, d7⟩ := hdec
  unfold lcase at hchk
  split at hchk
  case h_2 => cases hchk
  rename_i LA hLA
  refine lv_aload_n hexec hb d0 rfl h1 ?_
  refine l_args hexec hb hown hconst hkd d1 h0 h3 (va_X.kept hscr (hfr b hblo)) hi hIL hL ?_
  have s1 : kst D cA tt Ty (lenv xs I) [a, a1, a2] (lst F ((lav kd).reverse ++ [.inr (.inr (.inl 0))])) H [] ((lvs xs I kd).reverse ++ [.ref a]) := ⟨hst.1, hst.2.1, hst.2.2.1, trivial, kStk_app (kStk_rev (lav_ok hkd)) ⟨⟨a, rfl, rfl⟩, trivial⟩, hst.2.2.2.2.2⟩
  refine linv_ok hexec hb hml ⟨Nat.le_refl _, hR⟩ hcs hown hts hlg how hK hn hX hXs hTy hG hfr hM s1 hls d2 hLA (fun S' hS x u st' H1 L1 g1 g2 g3 g4 g5 => ?_)
  have hc2 := List.all_eq_true.mp hchk S' hS
  split at hc2
  case h_2 => cases hc2
  rename_i LB hLB
  have hfr1 : ∀ q, q < lo → H1[q]? = s.heap[q]? := fun q hq => (g2.2 q hq).trans (hfr q hq)
  refine lv_aload_n hexec hb d3 rfl h2 ?_
  refine l_args hexec hb hown hconst hkd d4 h0 h3 (va_X.kept hscr (hfr1 b hblo)) hi hIL hL ?_
  have s2 : kst D cA tt Ty (lenv xs I ++ x) ([a, a1, a2] ++ u) (S'.1, S'.2.1, [], (lav kd).reverse ++ .inr (.inr (.inl 1)) :: S'.2.2.2.1, S'.2.2.2.2) H1 [] ((lvs xs I kd).reverse ++ .ref a1 :: st') := ⟨g5.1, g5.2.1, g5.2.2.1, trivial, kStk_app (kStk_ext (kStk_rev (lav_ok hkd))) ⟨⟨a1, rfl, rfl⟩, g5.2.2.2.2.1⟩, g5.2.2.2.2.2⟩
  refine linv_ok hexec hb hml ⟨Nat.le_refl _, hR⟩ hcs hown hts hlg how hK hn hX hXs hTy g1 hfr1 hM s2 hls d5 hLB (fun S2 hS2 x2 u2 st2 H2 L2 q1 q2 q3 q4 q5 => ?_)
  have hc3 := List.all_eq_true.mp hc2 S2 hS2
  split at hc3
  case h_2 => cases hc3
  rename_i v w hvw
  simp only [Bool.and_eq_true] at hc3
  have hk := q5.2.2.2.2.1
  rw [hvw] at hk
  have fin : W p l e R s m args below meth c H2 (locs ++ L1 ++ L2) cells slots Q (F0 m 2122 ls []) := by
    rw [List.append_assoc]
    exact kk H2 (L1 ++ L2) q1 (kfr_trans g2 q2) (fun q hq => (List.mem_append.mp hq).elim (g4 q) (q4 q))
  match st2, hk with
  | [y, z], hk =>
    have hz := kveq_ok q5 ⟨y, hk.1⟩ hk.2.1 hc3.2
    obtain ⟨e1, e2, e3⟩ := kvok_uniq hc3.1 hk.1 hz
    subst e1
    cases lb with
    | false =>
      obtain ⟨n, rfl⟩ := e2 rfl
      exact lv_icmp_eq (x := n) (y := n) hexec hb (d6 rfl) (by omega) (fun _ => fin) (fun hne => absurd rfl hne)
    | true =>
      obtain ⟨n, rfl⟩ := e3 rfl
      obtain ⟨f1, f2⟩ := d7 rfl
      refine W.lcmp hexec hb f1 ?_
      refine lv_if_eq hexec hb f2 (by omega) (fun _ => fin) (fun hne => absurd (Int32.toInt_inj.mp ?_) hne)
      rw [k_lcmp]
      unfold kcmp
      rw [if_neg (Int.lt_irrefl _), if_pos rfl]
      rfl
  | [], hk => exact hk.elim
  | [_], hk => exact hk.2.elim
  | _ :: _ :: _ :: _, hk => exact hk.2.2.elim
end LCASE2
