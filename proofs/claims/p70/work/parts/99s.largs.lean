/-! THE LAW'S CASES: two calls with the same arguments out of the script, their answers compared -/
def lwl (a b : Int32) : Int64 := (a.toInt64 <<< ((32 : Int32).toInt64 &&& 63)) ||| (b.toInt64 &&& 4294967295)
/-- the arguments by their kind: as many numbers, or (9) two numbers and a long -/
def lvs (xs : Nat → Int32) (i kd : Nat) : List Value := match kd with
  | 1 => [.int (xs (i + 1))]
  | 2 => [.int (xs (i + 1)), .int (xs (i + 2))]
  | 3 => [.int (xs (i + 1)), .int (xs (i + 2)), .int (xs (i + 3))]
  | 5 => [.int (xs (i + 1)), .int (xs (i + 2)), .int (xs (i + 3)), .int (xs (i + 4)), .int (xs (i + 5))]
  | 9 => [.int (xs (i + 1)), .int (xs (i + 2)), .long (lwl (xs (i + 3)) (xs (i + 4)))]
  | _ => []
def lav (kd : Nat) : List kV := match kd with
  | 1 => [.inl (ksym 0)]
  | 2 => [.inl (ksym 0), .inl (ksym 1)]
  | 3 => [.inl (ksym 0), .inl (ksym 1), .inl (ksym 2)]
  | 5 => [.inl (ksym 0), .inl (ksym 1), .inl (ksym 2), .inl (ksym 3), .inl (ksym 4)]
  | 9 => [.inl (ksym 0), .inl (ksym 1), .inr (.inl (ksym 5))]
  | _ => []
def lenv (xs : Nat → Int32) (i : Nat) : List Int := [(xs (i + 1)).toInt, (xs (i + 2)).toInt, (xs (i + 3)).toInt, (xs (i + 4)).toInt, (xs (i + 5)).toInt, (lwl (xs (i + 3)) (xs (i + 4))).toInt]
def lgrp (pc : Nat) (k : Int) : kCd := [(pc, .aload_n 0, 1), (pc + 1, .iload_n 3, 1), (pc + 2, .iconst k, 1), (pc + 3, .iadd, 1), (pc + 4, .iaload, 1)]
def lwri (pc : Nat) : kCd := [(pc + 15, .i2l, 1), (pc + 16, .bipush 32, 2), (pc + 18, .lshl, 1), (pc + 24, .i2l, 1), (pc + 25, .ldc2_w 287, 3), (pc + 28, .land, 1), (pc + 29, .lor, 1)]
def lar (pc kd : Nat) : kCd := match kd with
  | 1 => lgrp pc 1
  | 2 => lgrp pc 1 ++ lgrp (pc + 5) 2
  | 3 => lgrp pc 1 ++ (lgrp (pc + 5) 2 ++ lgrp (pc + 10) 3)
  | 5 => lgrp pc 1 ++ (lgrp (pc + 5) 2 ++ (lgrp (pc + 10) 3 ++ (lgrp (pc + 15) 4 ++ lgrp (pc + 20) 5)))
  | 9 => lgrp pc 1 ++ (lgrp (pc + 5) 2 ++ (lgrp (pc + 10) 3 ++ (lgrp (pc + 19) 4 ++ lwri pc)))
  | _ => []
def laln (kd : Nat) : Nat := match kd with
  | 1 => 5
  | 2 => 10
  | 3 => 15
  | 5 => 25
  | 9 => 30
  | _ => 0
def lkok (kd : Nat) : Prop := kd = 0 ∨ kd = 1 ∨ kd = 2 ∨ kd = 3 ∨ kd = 5 ∨ kd = 9
theorem lav_ok {xs : Nat → Int32} {i kd : Nat} {ren : List Nat} (h : lkok kd) : kStk (lenv xs i) ren (lav kd) (lvs xs i kd) := by
  have e0 : kvok (lenv xs i) ren (.inl (ksym 0)) (.int (xs (i + 1))) := ⟨_, rfl, ksym_ev rfl⟩
  have e1 : kvok (lenv xs i) ren (.inl (ksym 1)) (.int (xs (i + 2))) := ⟨_, rfl, ksym_ev rfl⟩
  have e2 : kvok (lenv xs i) ren (.inl (ksym 2)) (.int (xs (i + 3))) := ⟨_, rfl, ksym_ev rfl⟩
  have e3 : kvok (lenv xs i) ren (.inl (ksym 3)) (.int (xs (i + 4))) := ⟨_, rfl, ksym_ev rfl⟩
  have e4 : kvok (lenv xs i) ren (.inl (ksym 4)) (.int (xs (i + 5))) := ⟨_, rfl, ksym_ev rfl⟩
  have e5 : kvok (lenv xs i) ren (.inr (.inl (ksym 5))) (.long (lwl (xs (i + 3)) (xs (i + 4)))) := ⟨_, rfl, ksym_ev rfl⟩
  rcases h with rfl | rfl | rfl | rfl | rfl | rfl
  · exact trivial
  · exact ⟨e0, trivial⟩
  · exact ⟨e0, e1, trivial⟩
  · exact ⟨e0, e1, e2, trivial⟩
  · exact ⟨e0, e1, e2, e3, e4, trivial⟩
  · exact ⟨e0, e1, e5, trivial⟩
theorem kStk_app {env : List Int} {ren : List Nat} : ∀ {l l' : List kV} {m m' : List Value}, kStk env ren l m → kStk env ren l' m' → kStk env ren (l ++ l') (m ++ m')
  | [], l', [], m', _, h' => h'
  | [], _, _ :: _, _, h, _ => h.elim
  | _ :: _, _, [], _, h, _ => h.elim
  | a :: l, l', b :: m, m', h, h' => ⟨h.1, kStk_app h.2 h'⟩
theorem kStk_rev {env : List Int} {ren : List Nat} : ∀ {l : List kV} {m : List Value}, kStk env ren l m → kStk env ren l.reverse m.reverse
  | [], [], _ => trivial
  | [], _ :: _, h => h.elim
  | _ :: _, [], h => h.elim
  | a :: l, b :: m, h => by
    rw [List.reverse_cons, List.reverse_cons]
    exact kStk_app (kStk_rev h.2) ⟨h.1, trivial⟩
theorem lenv_in {xs : Nat → Int32} {i : Nat} : kI (lenv xs i) [k32, k32, k32, k32, k32, k64] := by
  refine ⟨rfl, fun k q z hq hz => ?_⟩
  match k, hq, hz with
  | 0, hq, hz => cases hq; cases hz; exact k32_in _
  | 1, hq, hz => cases hq; cases hz; exact k32_in _
  | 2, hq, hz => cases hq; cases hz; exact k32_in _
  | 3, hq, hz => cases hq; cases hz; exact k32_in _
  | 4, hq, hz => cases hq; cases hz; exact k32_in _
  | 5, hq, hz => cases hq; cases hz; exact k64_in _
  | k + 6, hq, hz => cases hq
def lkind (lg : Bool) (v : kV) : Bool := match lg, v with
  | false, .inl _ => true
  | true, .inr (.inl _) => true
  | _, _ => false
theorem kvok_uniq {env : List Int} {ren : List Nat} {lg : Bool} {v : kV} {x y : Value} (hk : lkind lg v = true) (hx : kvok env ren v x) (hy : kvok env ren v y) : x = y ∧ (lg = false → ∃ n, x = .int n) ∧ (lg = true → ∃ n, x = .long n) := by
  match lg, v, hk, hx, hy with
  | false, .inl f, _, ⟨n, e1, e2⟩, ⟨n', e3, e4⟩ =>
    have e : n = n' := Int32.toInt_inj.mp (Option.some.inj (e2.symm.trans e4))
    subst e
    exact ⟨e1.trans e3.symm, fun _ => ⟨n, e1⟩, fun h => by cases h⟩
  | true, .inr (.inl f), _, ⟨n, e1, e2⟩, ⟨n', e3, e4⟩ =>
    have e : n = n' := Int64.toInt_inj.mp (Option.some.inj (e2.symm.trans e4))
    subst e
    exact ⟨e1.trans e3.symm, fun h => (by cases h), fun _ => ⟨n, e1⟩⟩
  | false, .inr _, hk, _, _ => cases hk
  | true, .inl _, hk, _, _ => cases hk
  | true, .inr (.inr _), hk, _, _ => cases hk
section LCASE
variable {p : Program} {l : Launch} {e : Env} {R : Room} {s : State} {m : MethodId} {args : Array Value} {below : List Frame} {meth : Method} {c : Code} {H : Heap} {locs : List Loc} {cells slots : Nat} {Q : State → Prop}
variable {cc : ByteArray} {pc : Nat} {ls : Array Slot} {b L I : Nat} {i : Int32} {xs : Nat → Int32} {st : List Value}
/-- a number of the script -/
theorem l_grp {k : Int} {j : Nat} (hexec : p.tables.exec = Jvm.exec) (hb : c.code = cc) (hg : ∀ q ∈ lgrp pc k, decode cc q.1 = .ok (q.2.1, q.2.2)) (h0 : ls[0]? = some (.val (.ref b))) (h3 : ls[3]? = some (.val (.int i))) (hX : va_X b L xs s H) (hi : i.toInt = (I : Int)) (hk : k = (j : Int)) (hj : j < 6) (hIL : I + 6 ≤ L) (hL : L ≤ 100000)
    (kk : W p l e R s m args below meth c H locs cells slots Q (F0 m (pc + 5) ls (.int (xs (I + j)) :: st))) : W p l e R s m args below meth c H locs cells slots Q (F0 m pc ls st) := by
  have d0 := hg (pc, .aload_n 0, 1) (List.mem_cons_self)
  have d1 := hg (pc + 1, .iload_n 3, 1) (List.mem_cons_of_mem _ List.mem_cons_self)
  have d2 := hg (pc + 2, .iconst k, 1) (List.mem_cons_of_mem _ (List.mem_cons_of_mem _ List.mem_cons_self))
  have d3 := hg (pc + 3, .iadd, 1) (List.mem_cons_of_mem _ (List.mem_cons_of_mem _ (List.mem_cons_of_mem _ List.mem_cons_self)))
  have d4 := hg (pc + 4, .iaload, 1) (List.mem_cons_of_mem _ (List.mem_cons_of_mem _ (List.mem_cons_of_mem _ (List.mem_cons_of_mem _ List.mem_cons_self))))
  dsimp only at d0 d1 d2 d3 d4
  have ek : (Int32.ofInt k).toInt = (j : Int) := by rw [hk]; exact c32 (by omega) (by omega)
  have es : (i + Int32.ofInt k).toInt = ((I + j : Nat) : Int) := by
    rw [Int32.toInt_add, hi, ek, k32_bm (by show (-2147483648 : Int) ≤ _; omega) (by show _ ≤ (2147483647 : Int); omega)]
    omega
  have en : (i + Int32.ofInt k).toNatClampNeg = I + j := by
    show (i + Int32.ofInt k).toInt.toNat = I + j
    rw [es]; rfl
  obtain ⟨scr, x1, x2, x3, x4, x5⟩ := hX
  refine lv_aload_n hexec hb d0 rfl h0 ?_
  refine lv_iload_n hexec hb d1 rfl h3 ?_
  refine lv_iconst hexec hb d2 rfl ?_
  refine lv_iadd hexec hb d3 ?_
  exact W.iald (v := .int (xs (I + j))) hexec hb x1 x2 x3 (by
    rw [x4, en, Int32.lt_iff_toInt_lt, es]
    show ¬ (((I + j : Nat) : Int) < 0 ∨ L ≤ I + j)
    omega) (by rw [en]; exact x5 _ (by omega)) rfl rfl d4 kk
/-- the arguments -/
theorem l_args {own : String} {kd : Nat} (hexec : p.tables.exec = Jvm.exec) (hb : c.code = cc) (hown : s.vm.findClass own = some m.cls) (hconst : (Cond.constantLong own 287 4294967295).before args s = true) (hkd : lkok kd) (hg : ∀ q ∈ lar pc kd, decode cc q.1 = .ok (q.2.1, q.2.2)) (h0 : ls[0]? = some (.val (.ref b))) (h3 : ls[3]? = some (.val (.int i))) (hX : va_X b L xs s H) (hi : i.toInt = (I : Int)) (hIL : I + 6 ≤ L) (hL : L ≤ 100000)
    (kk : W p l e R s m args below meth c H locs cells slots Q (F0 m (pc + laln kd) ls ((lvs xs I kd).reverse ++ st))) : W p l e R s m args below meth c H locs cells slots Q (F0 m pc ls st) := by
  rcases hkd with rfl | rfl | rfl | rfl | rfl | rfl
  · exact kk
  · exact l_grp (j := 1) hexec hb hg h0 h3 hX hi rfl (by decide) hIL hL kk
  · have hg : ∀ q ∈ lgrp pc 1 ++ lgrp (pc + 5) 2, decode cc q.1 = .ok (q.2.1, q.2.2) := hg
    obtain ⟨g1, g2⟩ := List.forall_mem_append.mp hg
    refine l_grp (j := 1) hexec hb g1 h0 h3 hX hi rfl (by decide) hIL hL ?_
    exact l_grp (j := 2) hexec hb g2 h0 h3 hX hi rfl (by decide) hIL hL kk
  · have hg : ∀ q ∈ lgrp pc 1 ++ (lgrp (pc + 5) 2 ++ lgrp (pc + 10) 3), decode cc q.1 = .ok (q.2.1, q.2.2) := hg
    obtain ⟨g1, g⟩ := List.forall_mem_append.mp hg
    obtain ⟨g2, g3⟩ := List.forall_mem_append.mp g
    refine l_grp (j := 1) hexec hb g1 h0 h3 hX hi rfl (by decide) hIL hL ?_
    refine l_grp (j := 2) hexec hb g2 h0 h3 hX hi rfl (by decide) hIL hL ?_
    exact l_grp (j := 3) hexec hb g3 h0 h3 hX hi rfl (by decide) hIL hL kk
  · have hg : ∀ q ∈ lgrp pc 1 ++ (lgrp (pc + 5) 2 ++ (lgrp (pc + 10) 3 ++ (lgrp (pc + 15) 4 ++ lgrp (pc + 20) 5))), decode cc q.1 = .ok (q.2.1, q.2.2) := hg
    obtain ⟨g1, g⟩ := List.forall_mem_append.mp hg
    obtain ⟨g2, g⟩ := List.forall_mem_append.mp g
    obtain ⟨g3, g⟩ := List.forall_mem_append.mp g
    obtain ⟨g4, g5⟩ := List.forall_mem_append.mp g
    refine l_grp (j := 1) hexec hb g1 h0 h3 hX hi rfl (by decide) hIL hL ?_
    refine l_grp (j := 2) hexec hb g2 h0 h3 hX hi rfl (by decide) hIL hL ?_
    refine l_grp (j := 3) hexec hb g3 h0 h3 hX hi rfl (by decide) hIL hL ?_
    refine l_grp (j := 4) hexec hb g4 h0 h3 hX hi rfl (by decide) hIL hL ?_
    exact l_grp (j := 5) hexec hb g5 h0 h3 hX hi rfl (by decide) hIL hL kk
  · have hg : ∀ q ∈ lgrp pc 1 ++ (lgrp (pc + 5) 2 ++ (lgrp (pc + 10) 3 ++ (lgrp (pc + 19) 4 ++ lwri pc))), decode cc q.1 = .ok (q.2.1, q.2.2) := hg
    obtain ⟨g1, g⟩ := List.forall_mem_append.mp hg
    obtain ⟨g2, g⟩ := List.forall_mem_append.mp g
    obtain ⟨g3, g⟩ := List.forall_mem_append.mp g
    obtain ⟨g4, g5⟩ := List.forall_mem_append.mp g
    have w0 := g5 (pc + 15, .i2l, 1) (List.mem_of_getElem? (i := 0) rfl)
    have w1 := g5 (pc + 16, .bipush 32, 2) (List.mem_of_getElem? (i := 1) rfl)
    have w2 := g5 (pc + 18, .lshl, 1) (List.mem_of_getElem? (i := 2) rfl)
    have w3 := g5 (pc + 24, .i2l, 1) (List.mem_of_getElem? (i := 3) rfl)
    have w4 := g5 (pc + 25, .ldc2_w 287, 3) (List.mem_of_getElem? (i := 4) rfl)
    have w5 := g5 (pc + 28, .land, 1) (List.mem_of_getElem? (i := 5) rfl)
    have w6 := g5 (pc + 29, .lor, 1) (List.mem_of_getElem? (i := 6) rfl)
    dsimp only at w0 w1 w2 w3 w4 w5 w6
    refine l_grp (j := 1) hexec hb g1 h0 h3 hX hi rfl (by decide) hIL hL ?_
    refine l_grp (j := 2) hexec hb g2 h0 h3 hX hi rfl (by decide) hIL hL ?_
    refine l_grp (j := 3) hexec hb g3 h0 h3 hX hi rfl (by decide) hIL hL ?_
    refine lv_i2l hexec hb w0 rfl ?_
    refine lv_bipush (v := 32) hexec hb w1 (by decide) ?_
    refine lv_lshl hexec hb w2 rfl ?_
    refine l_grp (j := 4) hexec hb g4 h0 h3 hX hi rfl (by decide) hIL hL ?_
    refine lv_i2l hexec hb w3 rfl ?_
    refine lv_ldc2 hexec hb hown hconst w4 ?_
    refine lv_land hexec hb w5 ?_
    exact lv_lor hexec hb w6 kk
end LCASE
