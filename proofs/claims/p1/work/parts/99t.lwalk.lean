/-! THE WALK OF THE LAW -/
/-- a fact of a new cell -/
theorem l_fact {D : va_G} {cA : Nat → ClassId} {tt : List kT} {tl : List Nat} {cs : List cCell} {n k j t r : Nat} {T : kT} {cc : cCell} {H0 H : Heap} {env : List Int} {ren : List Nat} {v : kV} (hTy : kTyp tt (cTy n tl)) (hH : cHp D cA n H0 cs H) (hk : tl[k]? = some t) (hT : tt[t]? = some T) (hc : cs[k]? = some cc) (h1 : T.1 = cc.1) (h2 : T.2.1 = cc.2.1) (hj : j < T.2.1) (hr : ren[r]? = some (n + k)) (hv : kvok env ren v (cVal n cc j)) : kfok D cA tt (cTy n tl) env ren H (r, kcst (j : Int), v) := by
  refine kfok_mk hTy ⟨n + k, t, T, cVal n cc, j, hr, ⟨k, rfl, hk⟩, hT, ?_, kcst_ev, hj, hv⟩
  have hcl := hH.2.2 k cc hc
  unfold kcell at hcl ⊢
  dsimp only at hcl
  rw [h1, h2]
  exact hcl
section LWALK
variable {p : Program} {l : Launch} {e : Env} {s : State} {m : MethodId} {below : List Frame} {meth : Method} {c : Code} {H : Heap} {locs : List Loc} {cells slots b L I n : Nat} {ls : Array Slot} {i : Int32} {xs : Nat → Int32} {R : Room} {args : Array Value} {Q : State → Prop} {D : va_G} {cA : Nat → Nat} {tys : List (ClassId × FieldType)}
set_option maxHeartbeats 4000000 in
set_option maxRecDepth 100000 in
/-- one call on a fresh object -/
theorem l_iter (hexec : p.tables.exec = Jvm.exec) (hb : c.code = code) (hml : c.maxLocals = 4) (hR : 2048 ≤ R.frames ∧ 84000 ≤ R.locals) (hcs : cells ≤ R.cells ∧ slots ≤ R.slots) (hown : s.vm.findClass "SilenceMatchLaw" = some m.cls) (hts : ∀ w ∈ k_lg, w.before args s = true) (hKn : cKn k_cl k_aty k_nw k_ao D cA tys s) (hi : i.toInt = (I : Int)) (hIL : I + 6 ≤ L) (hL : L ≤ 100000) (hls : ls.size = 4) (h0 : ls[0]? = some (.val (.ref b))) (h1 : ls[1]? = some (.val (.ref n))) (h2 : ls[2]? = some (.val (.ref (n + 109)))) (h3 : ls[3]? = some (.val (.int i))) (hbn : b < n) (hscr : va_X b L xs s s.heap) (hH : cHp D cA n s.heap k_cs2 H)
    (kk : ∀ (H' : Heap) (L' : List Loc), (∀ q, q < n → H'[q]? = s.heap[q]?) → (∀ q ∈ L', n ≤ q.base) → W p l e R s m args below meth c H' (locs ++ L') cells slots Q (F0 m 2122 ls [])) : W p l e R s m args below meth c H locs cells slots Q (F0 m 33 ls [.int (xs I &&& 127)]) := by
  have hv := k_and 127 (xs I) (by decide)
  rw [Int32.and_comm] at hv
  rw [show (127 : Int32).toInt = 127 from rfl] at hv
  generalize xs I &&& 127 = v at hv ⊢
  have hX : kXok (fun _ _ => True) n := ⟨fun _ _ _ _ _ _ _ => trivial, fun _ _ _ _ _ _ => trivial⟩
  have hK := cKn_kK (fun _ => 0) hKn
  have hT0 : kTyp k0_tt (cTy n k_tl) := kTypb_ok k_typ0 cTy_fun
  have hT1 : kTyp k1_tt (cTy n k_tl) := kTypb_ok k_typ1 cTy_fun
  have hr : kRt (cTy n k_tl) [n, n + 109, n + 1] [0, 36, 1] := ⟨rfl, fun k t a hk ha => by
    match k, hk, ha with
    | 0, hk, ha => cases hk; cases ha; exact ⟨0, rfl, rfl⟩
    | 1, hk, ha => cases hk; cases ha; exact ⟨109, rfl, rfl⟩
    | 2, hk, ha => cases hk; cases ha; exact ⟨1, rfl, rfl⟩
    | k + 3, hk, ha => cases hk⟩
  have z0 : kst D cA k0_tt (cTy n k_tl) (lenv xs I) [n, n + 109, n + 1] (lst [] []) H [] [] := ⟨lenv_in, (fun g hg => by cases hg), hr, trivial, trivial, (fun g hg => by cases hg)⟩
  have f0 : kfok D cA k1_tt (cTy n k_tl) (lenv xs I) [n, n + 109, n + 1] H (0, kcst 0, .inr (.inr (.inl 2))) := l_fact (k := 0) (j := 0) hT1 hH rfl rfl rfl rfl rfl (by decide) rfl ⟨n + 1, rfl, rfl⟩
  have f1 : kfok D cA k1_tt (cTy n k_tl) (lenv xs I) [n, n + 109, n + 1] H (2, kcst 1, .inl (kcst 0)) := l_fact (k := 1) (j := 1) hT1 hH rfl rfl rfl rfl rfl (by decide) rfl ⟨0, rfl, rfl⟩
  have f2 : kfok D cA k1_tt (cTy n k_tl) (lenv xs I) [n, n + 109, n + 1] H (1, kcst 5, .inl (kcst 0)) := l_fact (k := 109) (j := 5) hT1 hH rfl rfl rfl rfl rfl (by decide) rfl ⟨0, rfl, rfl⟩
  have z1 : kst D cA k1_tt (cTy n k_tl) (lenv xs I) [n, n + 109, n + 1] (lst fcL []) H [] [] := ⟨lenv_in, (fun g hg => by cases hg), hr, trivial, trivial, List.forall_mem_cons.mpr ⟨f0, List.forall_mem_cons.mpr ⟨f1, List.forall_mem_cons.mpr ⟨f2, fun _ h => absurd h List.not_mem_nil⟩⟩⟩⟩
  have fin : ∀ (H' : Heap) (L' : List Loc), kfr n H H' → (∀ q ∈ L', n ≤ q.base) → W p l e R s m args below meth c H' (locs ++ L') cells slots Q (F0 m 2122 ls []) := fun H' L' g1 g2 => kk H' L' (fun q hq => (g1.2 q hq).trans (hH.2.1 q hq)) g2
  by_cases hle : v.toInt ≤ 68
  · have hlt : v.toInt.toNat < lcs.length := by
      show v.toInt.toNat < 69
      omega
    have hq := List.getElem?_eq_getElem hlt
    generalize lcs[v.toInt.toNat] = q at hq
    have ho : loffs[(v.toInt - 0).toNat]? = some ((q.1 : Int) - 33) := by
      rw [Int.sub_zero, ← Array.getElem?_toList, loffs_ok, List.getElem?_map, hq]
      rfl
    refine lv_tableIn (tgt := q.1) hexec hb dl_33 (by omega) (by omega) ho (by omega) ?_
    obtain ⟨w1, w2, w3, w4⟩ := lcs_ok q (List.mem_of_getElem? hq)
    cases ht : q.2.2.2.2.2 with
    | false =>
      exact lcase_ok (a2 := n + 1) (X := fun _ _ => True) hexec hb hml hR hcs hown hts k_lg_good wmL0 hK (fun w hw => by cases hw) hX trivial hT0 (kept0 hX hT0) (hts _ wl_287) w1 w2 (w3 ht) hi hIL hL hls h0 h1 h2 h3 hbn hscr (fun q hq => hH.2.1 q hq) (cgood_ok k_good0 hH) z0 (fun H' L' g1 g2 g3 => fin H' L' g2 g3)
    | true =>
      exact lcase_ok (a2 := n + 1) (X := fun _ _ => True) hexec hb hml hR hcs hown hts k_lg_good wmL1 hK (fun w hw => by cases hw) hX trivial hT1 (kept1 hX hT1) (hts _ wl_287) w1 w2 (w4 ht) hi hIL hL hls h0 h1 h2 h3 hbn hscr (fun q hq => hH.2.1 q hq) (cgood_ok k_good1 hH) z1 (fun H' L' g1 g2 g3 => fin H' L' g2 g3)
  · refine lv_tableOut (tgt := 2122) hexec hb dl_33 (Or.inr (by omega)) (by decide) ?_
    have := fin H [] kfr_rfl (fun q hq => by cases hq)
    rwa [List.append_nil] at this
end LWALK
