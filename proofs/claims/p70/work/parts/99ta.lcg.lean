/-! THE LAW'S CASES, any: what is behind both calls is asked by chk -/
/-- there is no such state -/
def lcon (S : kS) : Bool := kgeS S (kcst (-1))
theorem lcon_ok {D : va_G} {cA : Nat → ClassId} {tt : List kT} {Ty : Nat → Nat → Prop} {env : List Int} {ren : List Nat} {S : kS} {H : Heap} {lv : List (Nat × Value)} {st : List Value} (h : kst D cA tt Ty env ren S H lv st) (hc : lcon S = true) : False := by
  have := kgeS_ok h kcst_ev hc
  omega
def lcgP (tt : List kT) (aty : List FieldType) (ct : List kCt) (ow : kOw) (cal : List (Nat × List Nat)) (wr : kW) (chk : kS → Bool) (S : kS) (pc kd : Nat) (lg : Bool) (iA iB : Nat) : Bool := match kinv tt aty ct ow cal wr 2000 (pc + 1 + laln kd) (.invokevirtual iA) (lsk S ((lav kd).reverse ++ [.inr (.inr (.inl 0))])) with
  | some L => L.all (fun S1 => match S1.2.2.2.1 with
    | [v] => match lkind lg v with
      | true => match kinv tt aty ct ow cal wr 2000 (pc + 1 + laln kd + 3 + 1 + 1 + laln kd) (.invokevirtual iB) (lsk S1 ((lav kd).reverse ++ [.inr (.inr (.inl 1))])) with
        | some L2 => L2.all (fun S2 => match S2.2.2.2.1 with
          | [w] => match lkind lg w with
            | true => match lcon S2 with
              | true => true
              | false => chk S2
            | false => false
          | _ => false)
        | none => false
      | false => false
    | _ => false)
  | none => false
def lcgR (tt : List kT) (aty : List FieldType) (ct : List kCt) (ow : kOw) (cal : List (Nat × List Nat)) (wr : kW) (chk : kS → Bool) (S : kS) (pc kd iA iB : Nat) : Bool := match kinv tt aty ct ow cal wr 2000 (pc + 1 + laln kd) (.invokevirtual iA) (lsk S ((lav kd).reverse ++ [.inr (.inr (.inl 0))])) with
  | some L => L.all (fun S1 => match kinv tt aty ct ow cal wr 2000 (pc + 1 + laln kd + 3 + 1 + laln kd) (.invokevirtual iB) (lsk S1 ((lav kd).reverse ++ .inr (.inr (.inl 1)) :: S1.2.2.2.1)) with
    | some L2 => L2.all (fun S2 => match S2.2.2.2.1 with
      | [v, w] => match lcon S2 with
        | true => true
        | false => match lkind false v with
          | true => match kveq S2 v w with
            | true => chk S2
            | false => false
          | false => false
      | _ => false)
    | none => false)
  | none => false
section LCG
variable {p : Program} {l : Launch} {e : Env} {R : Room} {s : State} {m : MethodId} {args : Array Value} {below : List Frame} {meth : Method} {c : Code} {H : Heap} {locs : List Loc} {cells slots : Nat} {Q : State → Prop}
variable {cc : ByteArray} {pc : Nat} {ls : Array Slot} {b L I : Nat} {i : Int32} {xs : Nat → Int32} {st : List Value}
variable {cl : List vw_C} {aty : List FieldType} {nw lg : List Cond} {sk : kSk} {cA aS : Nat → Nat} {mt : List kMd} {X : State → Heap → Prop} {lo : Nat}
variable {D : va_G} {tt : List kT} {Ty : Nat → Nat → Prop}
set_option maxHeartbeats 4000000 in
theorem lcgP_ok {own : String} {ow : kOw} {cal : List (Nat × List Nat)} {ct : List kCt} {nL kd iA iB a a1 : Nat} {ra : List Nat} {wr : kW} {lb : Bool} {chk : kS → Bool} {S : kS} {ev : List Int} (hexec : p.tables.exec = Jvm.exec) (hb : c.code = cc) (hml : c.maxLocals = nL) (hR : 2048 ≤ R.frames ∧ 84000 ≤ R.locals) (hcs : cells ≤ R.cells ∧ slots ≤ R.slots) (hown : s.vm.findClass own = some m.cls) (hts : ∀ w ∈ lg, w.before args s = true) (hlg : ∀ w ∈ lg, goodWord w = true) (how : kOwM own ow cl mt lg nw) (hK : kK cl aty nw sk D cA aS s) (hn : kNest nw) (hX : kXok X lo) (hXs : X s s.heap) (hTy : kTyp tt Ty)
    (hM : ∀ (i : Nat) (C : kCt), ct[i]? = some C → kMet l cl aty lg nw sk mt D cA aS tt Ty lo X C) (hconst : (Cond.constantLong own 287 4294967295).before args s = true)
    (hkd : lkok kd) (hdec : lcdP cc pc kd lb iA iB) (hchk : lcgP tt aty ct ow cal wr chk S pc kd lb iA iB = true)
    (hi : i.toInt = (I : Int)) (hIL : I + 6 ≤ L) (hL : L ≤ 100000) (hls : ls.size = nL) (h0 : ls[0]? = some (.val (.ref b))) (h1 : ls[1]? = some (.val (.ref a))) (h2 : ls[2]? = some (.val (.ref a1))) (h3 : ls[3]? = some (.val (.int i)))
    (hblo : b < lo) (hscr : va_X b L xs s s.heap) (hfr : ∀ q, q < lo → H[q]? = s.heap[q]?) (hG : kgood D cA tt Ty lo H) (hst : kst D cA tt Ty (lenv xs I ++ ev) (a :: a1 :: ra) (lsk S []) H [] [])
    (kk : ∀ (S2 : kS) (x : List Int) (u : List Nat) (st2 : List Value) (H' : Heap) (L' : List Loc), kgood D cA tt Ty lo H' → kfr lo H H' → kkp D cA tt Ty wr H H' → (∀ q ∈ L', lo ≤ q.base) → kst D cA tt Ty (lenv xs I ++ ev ++ x) (a :: a1 :: ra ++ u) S2 H' [] st2 → chk S2 = true → W p l e R s m args below meth c H' (locs ++ L') cells slots Q (F0 m 2121 ls [])) : W p l e R s m args below meth c H locs cells slots Q (F0 m pc ls []) := by
  obtain ⟨d0, d1, d2, d3, d4, d5, d6, d7, d8⟩ := hdec
  unfold lcgP at hchk
  split at hchk
  case h_2 => cases hchk
  rename_i LA hLA
  refine lv_aload_n hexec hb d0 rfl h1 ?_
  refine l_args hexec hb hown hconst hkd d1 h0 h3 (va_X.kept hscr (hfr b hblo)) hi hIL hL ?_
  have s1 : kst D cA tt Ty (lenv xs I ++ ev) (a :: a1 :: ra) (lsk S ((lav kd).reverse ++ [.inr (.inr (.inl 0))])) H [] ((lvs xs I kd).reverse ++ [.ref a]) := ⟨hst.1, hst.2.1, hst.2.2.1, trivial, kStk_app (lav_okE hkd) ⟨⟨a, rfl, rfl⟩, trivial⟩, hst.2.2.2.2.2⟩
  refine linv_ok hexec hb hml ⟨Nat.le_refl _, hR⟩ hcs hown hts hlg how hK hn hX hXs hTy hG hfr hM s1 hls d2 hLA (fun S' hS x u st' H1 L1 g1 g2 g3 g4 g5 => ?_)
  have hc2 := List.all_eq_true.mp hchk S' hS
  split at hc2
  case h_2 => cases hc2
  rename_i v hv
  cases hkv : lkind lb v with
  | false => simp only [hkv] at hc2; cases hc2
  | true =>
  simp only [hkv] at hc2
  split at hc2
  case h_2 => cases hc2
  rename_i LB hLB
  have hfr1 : ∀ q, q < lo → H1[q]? = s.heap[q]? := fun q hq => (g2.2 q hq).trans (hfr q hq)
  have hk1 := g5.2.2.2.2.1
  rw [hv] at hk1
  match st', hk1 with
  | [], hk1 => exact hk1.elim
  | _ :: _ :: _, hk1 => exact hk1.2.elim
  | [y], hk1 =>
  refine l_popv hexec hb hkv hk1.1 d3 ?_
  refine lv_aload_n hexec hb d4 rfl h2 ?_
  refine l_args hexec hb hown hconst hkd d5 h0 h3 (va_X.kept hscr (hfr1 b hblo)) hi hIL hL ?_
  have s2 : kst D cA tt Ty (lenv xs I ++ ev ++ x) (a :: a1 :: ra ++ u) (lsk S' ((lav kd).reverse ++ [.inr (.inr (.inl 1))])) H1 [] ((lvs xs I kd).reverse ++ [.ref a1]) := ⟨g5.1, g5.2.1, g5.2.2.1, trivial, kStk_app (by rw [List.append_assoc]; exact lav_okE hkd) ⟨⟨a1, rfl, rfl⟩, trivial⟩, g5.2.2.2.2.2⟩
  refine linv_ok hexec hb hml ⟨Nat.le_refl _, hR⟩ hcs hown hts hlg how hK hn hX hXs hTy g1 hfr1 hM s2 hls d6 hLB (fun S2 hS2 x2 u2 st2 H2 L2 q1 q2 q3 q4 q5 => ?_)
  have hc3 := List.all_eq_true.mp hc2 S2 hS2
  split at hc3
  case h_2 => cases hc3
  rename_i w hw
  cases hkw : lkind lb w with
  | false => simp only [hkw] at hc3; cases hc3
  | true =>
  simp only [hkw] at hc3
  cases hcn : lcon S2 with
  | true => exact (lcon_ok q5 hcn).elim
  | false =>
  simp only [hcn] at hc3
  have hk2 := q5.2.2.2.2.1
  rw [hw] at hk2
  match st2, hk2 with
  | [], hk2 => exact hk2.elim
  | _ :: _ :: _, hk2 => exact hk2.2.elim
  | [z], hk2 =>
  refine l_popv hexec hb hkw hk2.1 d7 ?_
  refine lv_goto (tgt := 2121) hexec hb d8 (by omega) ?_
  rw [List.append_assoc]
  exact kk S2 (x ++ x2) (u ++ u2) [z] H2 (L1 ++ L2) q1 (kfr_trans g2 q2) (kkp_trans g3 q3) (fun q hq => (List.mem_append.mp hq).elim (g4 q) (q4 q)) (by rw [← List.append_assoc, ← List.append_assoc]; exact q5) hc3
set_option maxHeartbeats 4000000 in
theorem lcgR_ok {own : String} {ow : kOw} {cal : List (Nat × List Nat)} {ct : List kCt} {nL kd iA iB a a1 : Nat} {ra : List Nat} {wr : kW} {chk : kS → Bool} {S : kS} {ev : List Int} (hexec : p.tables.exec = Jvm.exec) (hb : c.code = cc) (hml : c.maxLocals = nL) (hR : 2048 ≤ R.frames ∧ 84000 ≤ R.locals) (hcs : cells ≤ R.cells ∧ slots ≤ R.slots) (hown : s.vm.findClass own = some m.cls) (hts : ∀ w ∈ lg, w.before args s = true) (hlg : ∀ w ∈ lg, goodWord w = true) (how : kOwM own ow cl mt lg nw) (hK : kK cl aty nw sk D cA aS s) (hn : kNest nw) (hX : kXok X lo) (hXs : X s s.heap) (hTy : kTyp tt Ty)
    (hM : ∀ (i : Nat) (C : kCt), ct[i]? = some C → kMet l cl aty lg nw sk mt D cA aS tt Ty lo X C) (hconst : (Cond.constantLong own 287 4294967295).before args s = true)
    (hkd : lkok kd) (hdec : lcdR cc pc kd iA iB) (hchk : lcgR tt aty ct ow cal wr chk S pc kd iA iB = true)
    (hi : i.toInt = (I : Int)) (hIL : I + 6 ≤ L) (hL : L ≤ 100000) (hls : ls.size = nL) (h0 : ls[0]? = some (.val (.ref b))) (h1 : ls[1]? = some (.val (.ref a))) (h2 : ls[2]? = some (.val (.ref a1))) (h3 : ls[3]? = some (.val (.int i)))
    (hblo : b < lo) (hscr : va_X b L xs s s.heap) (hfr : ∀ q, q < lo → H[q]? = s.heap[q]?) (hG : kgood D cA tt Ty lo H) (hst : kst D cA tt Ty (lenv xs I ++ ev) (a :: a1 :: ra) (lsk S []) H [] [])
    (kk : ∀ (S2 : kS) (x : List Int) (u : List Nat) (st2 : List Value) (H' : Heap) (L' : List Loc), kgood D cA tt Ty lo H' → kfr lo H H' → kkp D cA tt Ty wr H H' → (∀ q ∈ L', lo ≤ q.base) → kst D cA tt Ty (lenv xs I ++ ev ++ x) (a :: a1 :: ra ++ u) S2 H' [] st2 → chk S2 = true → W p l e R s m args below meth c H' (locs ++ L') cells slots Q (F0 m 2121 ls [])) : W p l e R s m args below meth c H locs cells slots Q (F0 m pc ls []) := by
  obtain ⟨d0, d1, d2, d4, d5, d6, d7⟩ := hdec
  unfold lcgR at hchk
  split at hchk
  case h_2 => cases hchk
  rename_i LA hLA
  refine lv_aload_n hexec hb d0 rfl h1 ?_
  refine l_args hexec hb hown hconst hkd d1 h0 h3 (va_X.kept hscr (hfr b hblo)) hi hIL hL ?_
  have s1 : kst D cA tt Ty (lenv xs I ++ ev) (a :: a1 :: ra) (lsk S ((lav kd).reverse ++ [.inr (.inr (.inl 0))])) H [] ((lvs xs I kd).reverse ++ [.ref a]) := ⟨hst.1, hst.2.1, hst.2.2.1, trivial, kStk_app (lav_okE hkd) ⟨⟨a, rfl, rfl⟩, trivial⟩, hst.2.2.2.2.2⟩
  refine linv_ok hexec hb hml ⟨Nat.le_refl _, hR⟩ hcs hown hts hlg how hK hn hX hXs hTy hG hfr hM s1 hls d2 hLA (fun S' hS x u st' H1 L1 g1 g2 g3 g4 g5 => ?_)
  have hc2 := List.all_eq_true.mp hchk S' hS
  split at hc2
  case h_2 => cases hc2
  rename_i LB hLB
  have hfr1 : ∀ q, q < lo → H1[q]? = s.heap[q]? := fun q hq => (g2.2 q hq).trans (hfr q hq)
  refine lv_aload_n hexec hb d4 rfl h2 ?_
  refine l_args hexec hb hown hconst hkd d5 h0 h3 (va_X.kept hscr (hfr1 b hblo)) hi hIL hL ?_
  have s2 : kst D cA tt Ty (lenv xs I ++ ev ++ x) (a :: a1 :: ra ++ u) (lsk S' ((lav kd).reverse ++ .inr (.inr (.inl 1)) :: S'.2.2.2.1)) H1 [] ((lvs xs I kd).reverse ++ .ref a1 :: st') := ⟨g5.1, g5.2.1, g5.2.2.1, trivial, kStk_app (by rw [List.append_assoc]; exact lav_okE hkd) ⟨⟨a1, rfl, rfl⟩, g5.2.2.2.2.1⟩, g5.2.2.2.2.2⟩
  refine linv_ok hexec hb hml ⟨Nat.le_refl _, hR⟩ hcs hown hts hlg how hK hn hX hXs hTy g1 hfr1 hM s2 hls d6 hLB (fun S2 hS2 x2 u2 st2 H2 L2 q1 q2 q3 q4 q5 => ?_)
  have hc3 := List.all_eq_true.mp hc2 S2 hS2
  split at hc3
  case h_2 => cases hc3
  rename_i v w hvw
  cases hcn : lcon S2 with
  | true => exact (lcon_ok q5 hcn).elim
  | false =>
  simp only [hcn] at hc3
  cases hkv : lkind false v with
  | false => simp only [hkv] at hc3; cases hc3
  | true =>
  simp only [hkv] at hc3
  cases hkw : kveq S2 v w with
  | false => simp only [hkw] at hc3; cases hc3
  | true =>
  simp only [hkw] at hc3
  have hk := q5.2.2.2.2.1
  rw [hvw] at hk
  have fin : W p l e R s m args below meth c H2 (locs ++ L1 ++ L2) cells slots Q (F0 m 2121 ls []) := by
    rw [List.append_assoc]
    exact kk S2 (x ++ x2) (u ++ u2) st2 H2 (L1 ++ L2) q1 (kfr_trans g2 q2) (kkp_trans g3 q3) (fun q hq => (List.mem_append.mp hq).elim (g4 q) (q4 q)) (by rw [← List.append_assoc, ← List.append_assoc]; exact q5) hc3
  match st2, hk with
  | [y, z], hk =>
    have hz := kveq_ok q5 ⟨y, hk.1⟩ hk.2.1 hkw
    obtain ⟨e1, e2, -⟩ := kvok_uniq hkv hk.1 hz
    subst e1
    obtain ⟨n, rfl⟩ := e2 rfl
    exact lv_icmp_eq (x := n) (y := n) hexec hb d7 (by omega) (fun _ => fin) (fun hne => absurd rfl hne)
  | [], hk => exact hk.elim
  | [_], hk => exact hk.2.elim
  | _ :: _ :: _ :: _, hk => exact hk.2.2.elim
end LCG
