/-! THE WALK OF THE LAW -/
theorem l_cell {D : va_G} {cA : Nat → ClassId} {cs : List cCell} {n k : Nat} {T : kT} {cc : cCell} {H0 H : Heap} (hH : cHp D cA n H0 cs H) (hc : cs[k]? = some cc) (h1 : T.1 = cc.1) (h2 : T.2.1 = cc.2.1) : kcell D cA T (n + k) H (cVal n cc) := by
  have hcl := hH.2.2 k cc hc
  unfold kcell at hcl ⊢
  dsimp only at hcl
  rw [h1, h2]
  exact hcl
def lc109 : cCell := k_cs2.getD 109 (0, 0, [], (0, 0))
def lc110 : cCell := k_cs2.getD 110 (0, 0, [], (0, 0))
def lc111 : cCell := k_cs2.getD 111 (0, 0, [], (0, 0))
theorem lc109_at : k_cs2[109]? = some lc109 := rfl
theorem lc110_at : k_cs2[110]? = some lc110 := rfl
theorem lc111_at : k_cs2[111]? = some lc111 := rfl
def lT6 : kT := k_tt.getD 36 (0, 0, [], [])
theorem lT6_at : k_tt[36]? = some lT6 := rfl
theorem lT6_n : lT6.2.1 = 38 := by decide +kernel
theorem lT7_n : lT7.2.1 = 115 := by decide +kernel
theorem lT8_n : lT8.2.1 = 345 := by decide +kernel
theorem lc_69 : lT6.1 = lc109.1 ∧ lT6.2.1 = lc109.2.1 := by decide +kernel
theorem lc_70 : lT7.1 = lc110.1 ∧ lT7.2.1 = lc110.2.1 := by decide +kernel
theorem lc_71 : lT8.1 = lc111.1 ∧ lT8.2.1 = lc111.2.1 := by decide +kernel
theorem lg109 : cget lc109.2.2.1 lc109.2.2.2 1 = (2, 110) ∧ cget lc109.2.2.1 lc109.2.2.2 2 = (2, 111) := by decide +kernel
theorem lg110 : ∀ j ∈ [0, 1, 5, 6, 10], cget lc110.2.2.1 lc110.2.2.2 j = (0, 0) := by decide +kernel
theorem lg111 : ∀ j ∈ [0, 1, 5, 6, 10, 115, 116, 120, 121, 125, 230, 231, 235, 236, 240], cget lc111.2.2.1 lc111.2.2.2 j = (0, 0) := by decide +kernel
theorem lmd_start {D : va_G} {cA : Nat → ClassId} {n : Nat} {H0 H : Heap} (hH : cHp D cA n H0 k_cs2 H) : lmd D cA k_tt (n + 109) (n + 110) (n + 111) H := by
  have z : ∀ {cc : cCell} {j : Nat}, cget cc.2.2.1 cc.2.2.2 j = (0, 0) → cVal n cc j = .int 0 := fun {cc j} e => by
    unfold cVal
    rw [e]
    rfl
  refine ⟨fun T V hT hV => ?_, fun T V hT hV => ?_, fun T V hT hV => ?_⟩
  · have eT : T = lT6 := Option.some.inj (hT.symm.trans lT6_at)
    subst eT
    have hc := l_cell hH lc109_at lc_69.1 lc_69.2
    rw [kcell_uniq hV hc (j := 1) (by rw [lT6_n]; decide), kcell_uniq hV hc (j := 2) (by rw [lT6_n]; decide)]
    unfold cVal
    rw [lg109.1, lg109.2]
    exact ⟨rfl, rfl⟩
  · have eT : T = lT7 := Option.some.inj (hT.symm.trans lT7_at)
    subst eT
    have hc := l_cell hH lc110_at lc_70.1 lc_70.2
    have u : ∀ j ∈ [0, 1, 5, 6, 10], V j = .int 0 := fun j hj => by
      rw [kcell_uniq hV hc (j := j) (by
        rw [lT7_n]
        have := (show ∀ j ∈ [0, 1, 5, 6, 10], j < 115 by decide) j hj
        exact this)]
      exact z (lg110 j hj)
    exact Or.inl ⟨u 0 (by decide), u 1 (by decide), u 5 (by decide), u 6 (by decide), u 10 (by decide)⟩
  · have eT : T = lT8 := Option.some.inj (hT.symm.trans lT8_at)
    subst eT
    have hc := l_cell hH lc111_at lc_71.1 lc_71.2
    have u : ∀ j ∈ [0, 1, 5, 6, 10, 115, 116, 120, 121, 125, 230, 231, 235, 236, 240], V j = .int 0 := fun j hj => by
      rw [kcell_uniq hV hc (j := j) (by
        rw [lT8_n]
        have := (show ∀ j ∈ [0, 1, 5, 6, 10, 115, 116, 120, 121, 125, 230, 231, 235, 236, 240], j < 345 by decide) j hj
        exact this)]
      exact z (lg111 j hj)
    exact ⟨Or.inl ⟨u 0 (by decide), u 1 (by decide), u 5 (by decide), u 6 (by decide), u 10 (by decide)⟩, Or.inl ⟨u 115 (by decide), u 116 (by decide), u 120 (by decide), u 121 (by decide), u 125 (by decide)⟩, Or.inl ⟨u 230 (by decide), u 231 (by decide), u 235 (by decide), u 236 (by decide), u 240 (by decide)⟩⟩
def lc0 : cCell := k_cs2.getD 0 (0, 0, [], (0, 0))
def lc63 : cCell := k_cs2.getD 63 (0, 0, [], (0, 0))
def lc112 : cCell := k_cs2.getD 112 (0, 0, [], (0, 0))
theorem lc0_at : k_cs2[0]? = some lc0 := rfl
theorem lc63_at : k_cs2[63]? = some lc63 := rfl
theorem lc112_at : k_cs2[112]? = some lc112 := rfl
theorem lc_0 : lT0.1 = lc0.1 ∧ lT0.2.1 = lc0.2.1 := by decide +kernel
theorem lc_5 : lT5.1 = lc63.1 ∧ lT5.2.1 = lc63.2.1 := by decide +kernel
theorem lc_9 : lT9.1 = lc112.1 ∧ lT9.2.1 = lc112.2.1 := by decide +kernel
theorem lg0 : cget lc0.2.2.1 lc0.2.2.2 12 = (2, 63) := by decide +kernel
theorem lg109b : cget lc109.2.2.1 lc109.2.2.2 3 = (2, 112) := by decide +kernel
theorem lg63 : ∀ j ∈ [0, 1, 2], cget lc63.2.2.1 lc63.2.2.2 j = (0, 0) := by decide +kernel
theorem lg112 : ∀ j ∈ [0, 1, 2], cget lc112.2.2.1 lc112.2.2.2 j = (0, 0) := by decide +kernel
theorem lfl_start {D : va_G} {cA : Nat → ClassId} {n : Nat} {H0 H : Heap} (hH : cHp D cA n H0 k_cs2 H) : lfl D cA k_tt n (n + 109) (n + 63) (n + 112) H := by
  have z : ∀ {cc : cCell} {j : Nat}, cget cc.2.2.1 cc.2.2.2 j = (0, 0) → cVal n cc j = .int 0 := fun {cc j} e => by
    unfold cVal
    rw [e]
    rfl
  refine ⟨fun T V hT hV => ?_, fun T V hT hV => ?_, fun T T' V V' hT hT' hV hV' j hj => ?_⟩
  · have eT : T = lT0 := Option.some.inj (hT.symm.trans lT0_at)
    subst eT
    have hc := l_cell hH lc0_at lc_0.1 lc_0.2
    rw [Nat.add_zero] at hc
    rw [kcell_uniq hV hc (j := 12) (by rw [lT0_n]; decide)]
    unfold cVal
    rw [lg0]
    rfl
  · have eT : T = lT6 := Option.some.inj (hT.symm.trans lT6_at)
    subst eT
    have hc := l_cell hH lc109_at lc_69.1 lc_69.2
    rw [kcell_uniq hV hc (j := 3) (by rw [lT6_n]; decide)]
    unfold cVal
    rw [lg109b]
    rfl
  · have eT : T = lT5 := Option.some.inj (hT.symm.trans lT5_at)
    subst eT
    have eT : T' = lT9 := Option.some.inj (hT'.symm.trans lT9_at)
    subst eT
    have hc := l_cell hH lc63_at lc_5.1 lc_5.2
    have hc' := l_cell hH lc112_at lc_9.1 lc_9.2
    have hm : j ∈ [0, 1, 2] := by
      match j, hj with
      | 0, _ => decide
      | 1, _ => decide
      | 2, _ => decide
      | j + 3, hj => omega
    rw [kcell_uniq hV hc (j := j) (by rw [lT5_n]; exact hj), kcell_uniq hV' hc' (j := j) (by rw [lT9_n]; exact hj), z (lg63 j hm), z (lg112 j hm)]
theorem s_keptX {l : Launch} {D : va_G} {cA aS adV : Nat → Nat} {n : Nat} : ∀ (i : Nat) (C : kCt), k_ctX[i]? = some C → kMet l k_cl k_aty k_lg k_ns k_sk (k_mw.map (fun x => x.1)) D cA aS k_tt (sTy n k_tl aS) n (sX aS adV n) C := keptX (adV := adV) sX_ok sTy_typ sTy_str rfl sTy_S
section LWALK
variable {p : Program} {l : Launch} {e : Env} {s : State} {m : MethodId} {below : List Frame} {meth : Method} {c : Code} {H : Heap} {locs : List Loc} {cells slots b L I n : Nat} {ls : Array Slot} {i : Int32} {xs : Nat → Int32} {R : Room} {args : Array Value} {Q : State → Prop} {D : va_G} {cA aS adV : Nat → Nat}
set_option maxHeartbeats 4000000 in
set_option maxRecDepth 100000 in
/-- one round -/
theorem l_iter (hexec : p.tables.exec = Jvm.exec) (hb : c.code = code) (hml : c.maxLocals = 4) (hR : 2048 ≤ R.frames ∧ 84000 ≤ R.locals) (hcs : cells ≤ R.cells ∧ slots ≤ R.slots) (hown : s.vm.findClass "SilenceMatchLaw" = some m.cls) (hts : ∀ w ∈ k_lg, w.before args s = true) (hK : kK k_cl k_aty k_ns k_sk D cA aS s) (hXs : sX aS adV n s s.heap) (hi : i.toInt = (I : Int)) (hIL : I + 6 ≤ L) (hL : L ≤ 100000) (hls : ls.size = 4) (h0 : ls[0]? = some (.val (.ref b))) (h1 : ls[1]? = some (.val (.ref n))) (h2 : ls[2]? = some (.val (.ref (n + 109)))) (h3 : ls[3]? = some (.val (.int i))) (hbn : b < n) (hscr : va_X b L xs s s.heap) (hfr : ∀ q, q < n → H[q]? = s.heap[q]?) (hG : kgood D cA k_tt (sTy n k_tl aS) n H) (hm : lmd D cA k_tt (n + 109) (n + 110) (n + 111) H) (hf : lfl D cA k_tt n (n + 109) (n + 63) (n + 112) H)
    (kk : ∀ (H' : Heap) (L' : List Loc), kgood D cA k_tt (sTy n k_tl aS) n H' → (∀ q, q < n → H'[q]? = s.heap[q]?) → lmd D cA k_tt (n + 109) (n + 110) (n + 111) H' → lfl D cA k_tt n (n + 109) (n + 63) (n + 112) H' → (∀ q ∈ L', n ≤ q.base) → W p l e R s m args below meth c H' (locs ++ L') cells slots Q (F0 m 2121 ls [])) : W p l e R s m args below meth c H locs cells slots Q (F0 m 33 ls [.int (xs I &&& 127)]) := by
  have hv := k_and 127 (xs I) (by decide)
  rw [Int32.and_comm] at hv
  rw [show (127 : Int32).toInt = 127 from rfl] at hv
  generalize xs I &&& 127 = v at hv ⊢
  have hX : kXok (sX aS adV n) n := sX_ok
  have hT : kTyp k_tt (sTy n k_tl aS) := sTy_typ
  have t0 : sTy n k_tl aS n 0 := Or.inl ⟨0, rfl, rfl⟩
  have t1 : sTy n k_tl aS (n + 109) 36 := Or.inl ⟨109, rfl, rfl⟩
  have t2 : sTy n k_tl aS (n + 110) 37 := Or.inl ⟨110, rfl, rfl⟩
  have t3 : sTy n k_tl aS (n + 111) 38 := Or.inl ⟨111, rfl, rfl⟩
  have t5 : sTy n k_tl aS (n + 63) 35 := Or.inl ⟨63, rfl, rfl⟩
  have t6 : sTy n k_tl aS (n + 112) 39 := Or.inl ⟨112, rfl, rfl⟩
  have h37 : ∀ T : kT, k_tt[37]? = some T → 10 < T.2.1 := fun T h => by
    have e : T = lT7 := Option.some.inj (h.symm.trans lT7_at)
    rw [e, lT7_n]
    decide
  have h38 : ∀ T : kT, k_tt[38]? = some T → 240 < T.2.1 := fun T h => by
    have e : T = lT8 := Option.some.inj (h.symm.trans lT8_at)
    rw [e, lT8_n]
    decide
  have n0 : ∀ T : kT, k_tt[0]? = some T → 12 < T.2.1 := fun T h => by
    have e : T = lT0 := Option.some.inj (h.symm.trans lT0_at)
    rw [e, lT0_n]
    decide
  have n6 : ∀ T : kT, k_tt[36]? = some T → 3 < T.2.1 := fun T h => by
    have e : T = lT6 := Option.some.inj (h.symm.trans lT6_at)
    rw [e, lT6_n]
    decide
  have n5 : ∀ T : kT, k_tt[35]? = some T → T.2.1 = 3 := fun T h => by
    have e : T = lT5 := Option.some.inj (h.symm.trans lT5_at)
    rw [e, lT5_n]
  have n9 : ∀ T : kT, k_tt[39]? = some T → T.2.1 = 3 := fun T h => by
    have e : T = lT9 := Option.some.inj (h.symm.trans lT9_at)
    rw [e, lT9_n]
  have fin : ∀ (H' : Heap) (L' : List Loc), kgood D cA k_tt (sTy n k_tl aS) n H' → kfr n H H' → lmd D cA k_tt (n + 109) (n + 110) (n + 111) H' → lfl D cA k_tt n (n + 109) (n + 63) (n + 112) H' → (∀ q ∈ L', n ≤ q.base) → W p l e R s m args below meth c H' (locs ++ L') cells slots Q (F0 m 2121 ls []) := fun H' L' g1 g2 g3 g4 g5 => kk H' L' g1 (fun q hq => (g2.2 q hq).trans (hfr q hq)) g3 g4 g5
  by_cases hle : v.toInt ≤ 68
  · have hlt : v.toInt.toNat < lcs.length := by
      show v.toInt.toNat < 69
      omega
    have hq := List.getElem?_eq_getElem hlt
    generalize lcs[v.toInt.toNat] = q at hq
    have ho : loffs[(v.toInt - 0).toNat]? = some ((q.1 : Int) - 33) := by
      rw [Int.sub_zero, ← Array.getElem?_toList, loffs_ok, List.getElem?_map, hq]
      rfl
    refine lv_tableIn (tgt := q.1) hexec hb dl_33 (by omega) (by omega) ho (by omega) ?_
    obtain ⟨w1, w2, w3, w4, w5, w6, w7⟩ := lcs_ok q (List.mem_of_getElem? hq)
    by_cases k0 : q.2.2.2.2.2 = 0
    · obtain ⟨y2, y3⟩ := w5 k0
      have y1 := w2 (by omega)
      rcases l_stAB (xs := xs) (I := I) (a := n) hT hG hm lT6_at lT7_at (by rw [lT7_n]; decide) t0 t1 t2 t3 with z1 | ⟨ev, z1⟩
      · exact lcgP_ok hexec hb hml hR hcs hown hts k_lg_good wmL hK k_nsn hX hXs hT s_keptX (hts _ wl_287) w1 y1 y2 hi hIL hL hls h0 h1 h2 h3 hbn hscr hfr hG z1 (fun S2 x u st2 H' L' g1 g2 g3 g4 g5 g6 => fin H' L' g1 g2 (lend_ok hT h37 h38 hG hm g3 g5 (fun s0 h => by cases h) rfl rfl rfl t1 t2 t3 g6) (lfl_kkp n0 n6 n5 n9 hG g3 wf_M t0 t1 t5 t6 hf) g4)
      · exact lcgP_ok hexec hb hml hR hcs hown hts k_lg_good wmL hK k_nsn hX hXs hT s_keptX (hts _ wl_287) w1 y1 y3 hi hIL hL hls h0 h1 h2 h3 hbn hscr hfr hG z1 (fun S2 x u st2 H' L' g1 g2 g3 g4 g5 g6 => fin H' L' g1 g2 (lend_ok hT h37 h38 hG hm g3 g5 (fun s0 h => by cases h) rfl rfl rfl t1 t2 t3 g6) (lfl_kkp n0 n6 n5 n9 hG g3 wf_M t0 t1 t5 t6 hf) g4)
    · by_cases k1 : q.2.2.2.2.2 = 1
      · have y1 := w2 (by omega)
        obtain ⟨ev, z1, z2⟩ := l_stW (xs := xs) (I := I) (a := n) hT hG hm lT6_at t0 t1 t2 t3
        exact lcgP_ok hexec hb hml hR hcs hown hts k_lg_good wmL hK k_nsn hX hXs hT s_keptX (hts _ wl_287) w1 y1 (w6 k1) hi hIL hL hls h0 h1 h2 h3 hbn hscr hfr hG z1 (fun S2 x u st2 H' L' g1 g2 g3 g4 g5 g6 => fin H' L' g1 g2 (lend_ok hT h37 h38 hG hm g3 g5 (fun s0 h => okE_ext (z2 s0 h)) rfl rfl rfl t1 t2 t3 g6) (lfl_kkp n0 n6 n5 n9 hG g3 wf_W t0 t1 t5 t6 hf) g4)
      · have b1 := k32_in (xs (I + 1))
        have b1l : (-2147483648 : Int) ≤ (xs (I + 1)).toInt := b1.1
        have b1u : (xs (I + 1)).toInt ≤ (2147483647 : Int) := b1.2
        have hI6 : ∀ {ev x : List Int}, ∃ z, (lenv xs I ++ ev ++ x)[0]? = some z := fun {ev x} => ⟨_, rfl⟩
        by_cases k2 : q.2.2.2.2.2 = 2
        · have eq := w3 k2
          subst eq
          obtain ⟨ev, z1, z2⟩ := l_stI (xs := xs) (I := I) (a := n) hT hG hm hf t0 t1 t2 t3 t5 t6
          have go : ∀ (q : Int × Int) (cal : List (Nat × List Nat)), lcgP k_tt k_aty k_ctX owL cal wrI chI (ls0 lsI q) 1896 1 false 275 278 = true → q.1 ≤ (xs (I + 1)).toInt → (xs (I + 1)).toInt ≤ q.2 → W p l e R s m args below meth c H locs cells slots Q (F0 m 1896 ls []) := fun q cal hc hl hu => lcgP_ok hexec hb hml hR hcs hown hts k_lg_good wmL hK k_nsn hX hXs hT s_keptX (hts _ wl_287) (show lkok 1 from w1) ld_64 hc hi hIL hL hls h0 h1 h2 h3 hbn hscr hfr hG (ls0_ok z1 rfl hl hu) (fun S2 x u st2 H' L' g1 g2 g3 g4 g5 g6 => by
            unfold chI at g6
            rw [Bool.and_eq_true] at g6
            exact fin H' L' g1 g2 (lend_ok hT h37 h38 hG hm g3 g5 (fun s0 h => okE_ext (z2 s0 h)) rfl rfl rfl t1 t2 t3 g6.1) (lfl_chk hT g5 hI6 rfl rfl rfl rfl t0 t1 t5 t6 g6.2) g4)
          by_cases x0 : (xs (I + 1)).toInt < 0
          · exact go _ _ lc_imagen b1l (by show _ ≤ (-1 : Int); omega)
          · by_cases x1 : (xs (I + 1)).toInt = 0
            · exact go _ _ lc_image0 (by show (0 : Int) ≤ _; omega) (by show _ ≤ (0 : Int); omega)
            · by_cases x2 : (xs (I + 1)).toInt = 1
              · exact go _ _ lc_image1 (by show (1 : Int) ≤ _; omega) (by show _ ≤ (1 : Int); omega)
              · by_cases x3 : (xs (I + 1)).toInt = 2
                · exact go _ _ lc_image2 (by show (2 : Int) ≤ _; omega) (by show _ ≤ (2 : Int); omega)
                · exact go _ _ lc_imagep (by show (3 : Int) ≤ _; omega) b1u
        · have eq := w4 (by omega)
          subst eq
          have go : ∀ (S : kS) (q : Int × Int) (cal : List (Nat × List Nat)) (ev : List Int), kst D cA k_tt (sTy n k_tl aS) (lenv xs I ++ ev) [n, n + 109, n + 110, n + 111, n + 63, n + 112] (lsk S []) H [] [] → (∀ s0 ∈ stW, okE (lenv xs I ++ ev) s0) → lcgR k_tt k_aty k_ctX owL cal wrW (lend wrW stW) (ls0 S q) 1919 1 279 282 = true → q.1 ≤ (xs (I + 1)).toInt → (xs (I + 1)).toInt ≤ q.2 → W p l e R s m args below meth c H locs cells slots Q (F0 m 1919 ls []) := fun S q cal ev z1 z2 hc hl hu => lcgR_ok hexec hb hml hR hcs hown hts k_lg_good wmL hK k_nsn hX hXs hT s_keptX (hts _ wl_287) (show lkok 1 from w1) ld_65 hc hi hIL hL hls h0 h1 h2 h3 hbn hscr hfr hG (ls0_ok z1 rfl hl hu) (fun S2 x u st2 H' L' g1 g2 g3 g4 g5 g6 => fin H' L' g1 g2 (lend_ok hT h37 h38 hG hm g3 g5 (fun s0 h => okE_ext (z2 s0 h)) rfl rfl rfl t1 t2 t3 g6) (lfl_kkp n0 n6 n5 n9 hG g3 wf_W t0 t1 t5 t6 hf) g4)
          obtain ⟨ev, z1, z2⟩ := l_stI (xs := xs) (I := I) (a := n) hT hG hm hf t0 t1 t2 t3 t5 t6
          by_cases x0 : (xs (I + 1)).toInt < 0
          · exact go _ _ _ _ z1 z2 lc_backn b1l (by show _ ≤ (-1 : Int); omega)
          · by_cases x3 : 2 < (xs (I + 1)).toInt
            · exact go _ _ _ _ z1 z2 lc_backp (by show (3 : Int) ≤ _; omega) b1u
            · obtain ⟨ev2, y1, y2⟩ := l_stK (xs := xs) (I := I) (a := n) (K := (xs (I + 1)).toInt.toNat) hT hG hm hf t0 t1 t2 t3 t5 t6 (by omega) (by omega)
              exact go _ _ _ _ y1 y2 lc_backk (by show (0 : Int) ≤ _; omega) (by show _ ≤ (2 : Int); omega)
  · refine lv_tableOut (tgt := 2121) hexec hb dl_33 (Or.inr (by omega)) (by decide) ?_
    have := fin H [] hG kfr_rfl hm hf (fun q hq => by cases hq)
    rwa [List.append_nil] at this
end LWALK
section LLOOP
variable {p : Program} {l : Launch} {e : Env} {s : State} {m : MethodId} {below : List Frame} {meth : Method} {c : Code} {cells slots b L n : Nat} {xs : Nat → Int32} {D : va_G} {cA aS adV : Nat → Nat}
set_option maxHeartbeats 4000000 in
/-- all rounds -/
theorem l_loop (hexec : p.tables.exec = Jvm.exec) (hb : c.code = code) (hml : c.maxLocals = 4) (hrt : meth.sig.returnType = ret) (hlk : meth.locks = false) (hcs : cells ≤ 600000 ∧ slots ≤ 7302250) (hown : s.vm.findClass "SilenceMatchLaw" = some m.cls) (hts : ∀ w ∈ k_lg, w.before #[Value.ref b] s = true) (hK : kK k_cl k_aty k_ns k_sk D cA aS s) (hXs : sX aS adV n s s.heap) (hL : L ≤ 100000) (hn : s.heap.size = n) (hbn : b < n) (hscr : va_X b L xs s s.heap) : ∀ (f I : Nat) (i : Int32) (ls : Array Slot) (H : Heap) (locs : List Loc), L ≤ I + 6 * f → i.toInt = (I : Int) → lv_has ls 4 [(3, .int i), (2, .ref (n + 109)), (1, .ref n), (0, .ref b)] → (∀ q, q < n → H[q]? = s.heap[q]?) → kgood D cA k_tt (sTy n k_tl aS) n H → lmd D cA k_tt (n + 109) (n + 110) (n + 111) H → lfl D cA k_tt n (n + 109) (n + 63) (n + 112) H → (∀ q ∈ locs, n ≤ q.base) → W p l e room_1 s m #[Value.ref b] below meth c H locs cells slots (lw_Z below #[Value.ref b] s) (F0 m 18 ls [])
  | 0, I, i, ls, H, locs, hf, hi, hlv, hfr, hG, hm, hf2, hlo => l_head hexec hb (lv_at hlv 3 rfl) (lv_at hlv 0 rfl) (va_X.kept hscr (hfr b hbn)) hi hL (fun h => by omega) (fun _ => l_end hexec hb hrt hlk (fun q hq => by rw [hn]; exact hlo q hq) hcs.1 hcs.2)
  | f + 1, I, i, ls, H, locs, hf, hi, hlv, hfr, hG, hm, hf2, hlo => by
    refine l_head hexec hb (lv_at hlv 3 rfl) (lv_at hlv 0 rfl) (va_X.kept hscr (hfr b hbn)) hi hL (fun hIL => ?_) (fun _ => l_end hexec hb hrt hlk (fun q hq => by rw [hn]; exact hlo q hq) hcs.1 hcs.2)
    refine l_iter hexec hb hml ⟨by decide, by decide⟩ hcs hown hts hK hXs hi hIL hL hlv.1 (lv_at hlv 3 rfl) (lv_at hlv 2 rfl) (lv_at hlv 1 rfl) (lv_at hlv 0 rfl) hbn hscr hfr hG hm hf2 (fun H5 L5 g5 f5 m5 q5 l5 => ?_)
    refine lv_iinc (k := 0) hexec hb dl_2121 hlv rfl rfl (by decide) rfl (fun ls4 hlv4 => ?_)
    refine lv_goto (tgt := 18) hexec hb dl_2124 rfl ?_
    refine l_loop hexec hb hml hrt hlk hcs hown hts hK hXs hL hn hbn hscr f (I + 6) (i + Int32.ofInt 6) ls4 H5 (locs ++ L5) (by omega) ?_ hlv4 f5 g5 m5 q5 (fun q hq => (List.mem_append.mp hq).elim (hlo q) (l5 q))
    rw [Int32.toInt_add, hi, show (Int32.ofInt 6).toInt = 6 from rfl, k32_bm (by show (-2147483648 : Int) ≤ _; omega) (by show _ ≤ (2147483647 : Int); omega)]
    omega
end LLOOP
