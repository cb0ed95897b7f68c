/-! THE WALK OF THE LAW -/
theorem l_cell {D : va_G} {cA : Nat → ClassId} {cs : List cCell} {n k : Nat} {T : kT} {cc : cCell} {H0 H : Heap} (hH : cHp D cA n H0 cs H) (hc : cs[k]? = some cc) (h1 : T.1 = cc.1) (h2 : T.2.1 = cc.2.1) : kcell D cA T (n + k) H (cVal n cc) := by
  have hcl := hH.2.2 k cc hc
  unfold kcell at hcl ⊢
  dsimp only at hcl
  rw [h1, h2]
  exact hcl
def lc109 : cCell := k_cs2.getD 109 (0, 0, [], (0, 0))
def lc110 : cCell := k_cs2.getD 110 (0, 0, [], (0, 0))
def lc111 : cCell := k_cs2.getD 111 (0, 0, [], (0, 0))
theorem lc109_at : k_cs2[109]? = some lc109 := rfl
theorem lc110_at : k_cs2[110]? = some lc110 := rfl
theorem lc111_at : k_cs2[111]? = some lc111 := rfl
def lT6 : kT := k_tt.getD 36 (0, 0, [], [])
theorem lT6_at : k_tt[36]? = some lT6 := rfl
theorem lT6_n : lT6.2.1 = 38 := by decide +kernel
theorem lT7_n : lT7.2.1 = 115 := by decide +kernel
theorem lT8_n : lT8.2.1 = 345 := by decide +kernel
theorem lc_69 : lT6.1 = lc109.1 ∧ lT6.2.1 = lc109.2.1 := by decide +kernel
theorem lc_70 : lT7.1 = lc110.1 ∧ lT7.2.1 = lc110.2.1 := by decide +kernel
theorem lc_71 : lT8.1 = lc111.1 ∧ lT8.2.1 = lc111.2.1 := by decide +kernel
theorem lg109 : cget lc109.2.2.1 lc109.2.2.2 1 = (2, 110) ∧ cget lc109.2.2.1 lc109.2.2.2 2 = (2, 111) := by decide +kernel
theorem lg110 : ∀ j ∈ [0, 1, 5, 6, 10], cget lc110.2.2.1 lc110.2.2.2 j = (0, 0) := by decide +kernel
theorem lg111 : ∀ j ∈ [0, 1, 5, 6, 10, 115, 116, 120, 121, 125, 230, 231, 235, 236, 240], cget lc111.2.2.1 lc111.2.2.2 j = (0, 0) := by decide +kernel
theorem lmd_start {D : va_G} {cA : Nat → ClassId} {n : Nat} {H0 H : Heap} (hH : cHp D cA n H0 k_cs2 H) : lmd D cA k_tt (n + 109) (n + 110) (n + 111) H := by
  have z : ∀ {cc : cCell} {j : Nat}, cget cc.2.2.1 cc.2.2.2 j = (0, 0) → cVal n cc j = .int 0 := fun {cc j} e => by
    unfold cVal
    rw [e]
    rfl
  refine ⟨fun T V hT hV => ?_, fun T V hT hV => ?_, fun T V hT hV => ?_⟩
  · have eT : T = lT6 := Option.some.inj (hT.symm.trans lT6_at)
    subst eT
    have hc := l_cell hH lc109_at lc_69.1 lc_69.2
    rw [kcell_uniq hV hc (j := 1) (by rw [lT6_n]; decide), kcell_uniq hV hc (j := 2) (by rw [lT6_n]; decide)]
    unfold cVal
    rw [lg109.1, lg109.2]
    exact ⟨rfl, rfl⟩
  · have eT : T = lT7 := Option.some.inj (hT.symm.trans lT7_at)
    subst eT
    have hc := l_cell hH lc110_at lc_70.1 lc_70.2
    have u : ∀ j ∈ [0, 1, 5, 6, 10], V j = .int 0 := fun j hj => by
      rw [kcell_uniq hV hc (j := j) (by
        rw [lT7_n]
        have := (show ∀ j ∈ [0, 1, 5, 6, 10], j < 115 by decide) j hj
        exact this)]
      exact z (lg110 j hj)
    exact Or.inl ⟨u 0 (by decide), u 1 (by decide), u 5 (by decide), u 6 (by decide), u 10 (by decide)⟩
  · have eT : T = lT8 := Option.some.inj (hT.symm.trans lT8_at)
    subst eT
    have hc := l_cell hH lc111_at lc_71.1 lc_71.2
    have u : ∀ j ∈ [0, 1, 5, 6, 10, 115, 116, 120, 121, 125, 230, 231, 235, 236, 240], V j = .int 0 := fun j hj => by
      rw [kcell_uniq hV hc (j := j) (by
        rw [lT8_n]
        have := (show ∀ j ∈ [0, 1, 5, 6, 10, 115, 116, 120, 121, 125, 230, 231, 235, 236, 240], j < 345 by decide) j hj
        exact this)]
      exact z (lg111 j hj)
    exact ⟨Or.inl ⟨u 0 (by decide), u 1 (by decide), u 5 (by decide), u 6 (by decide), u 10 (by decide)⟩, Or.inl ⟨u 115 (by decide), u 116 (by decide), u 120 (by decide), u 121 (by decide), u 125 (by decide)⟩, Or.inl ⟨u 230 (by decide), u 231 (by decide), u 235 (by decide), u 236 (by decide), u 240 (by decide)⟩⟩
def lc0 : cCell := k_cs2.getD 0 (0, 0, [], (0, 0))
def lc52 : cCell := k_cs2.getD 52 (0, 0, [], (0, 0))
def lc124 : cCell := k_cs2.getD 124 (0, 0, [], (0, 0))
def lc125 : cCell := k_cs2.getD 125 (0, 0, [], (0, 0))
def lcR (j : Nat) : cCell := k_cs2.getD (53 + 2 * j) (0, 0, [], (0, 0))
theorem lc0_at : k_cs2[0]? = some lc0 := rfl
theorem lc52_at : k_cs2[52]? = some lc52 := rfl
theorem lc124_at : k_cs2[124]? = some lc124 := rfl
theorem lc125_at : k_cs2[125]? = some lc125 := rfl
theorem lcR_at : ∀ j, j < 4 → k_cs2[53 + 2 * j]? = some (lcR j) := fun j hj => by
  match j, hj with
  | 0, _ => rfl
  | 1, _ => rfl
  | 2, _ => rfl
  | 3, _ => rfl
  | j + 4, hj => omega
theorem lc_0 : lT0.1 = lc0.1 ∧ lT0.2.1 = lc0.2.1 := by decide +kernel
theorem lc_52 : lT32.1 = lc52.1 ∧ lT32.2.1 = lc52.2.1 := by decide +kernel
theorem lc_124 : lT51.1 = lc124.1 ∧ lT51.2.1 = lc124.2.1 := by decide +kernel
theorem lc_125 : lT52.1 = lc125.1 ∧ lT52.2.1 = lc125.2.1 := by decide +kernel
theorem lc_R : ∀ j, j < 4 → lT30.1 = (lcR j).1 ∧ lT30.2.1 = (lcR j).2.1 := by decide +kernel
theorem lg0 : cget lc0.2.2.1 lc0.2.2.2 9 = (2, 52) := by decide +kernel
theorem lg52 : ∀ j, j < 4 → cget lc52.2.2.1 lc52.2.2.2 j = (2, ((53 + 2 * j : Nat) : Int)) := by decide +kernel
theorem lg109c : cget lc109.2.2.1 lc109.2.2.2 34 = (2, 124) ∧ cget lc109.2.2.1 lc109.2.2.2 35 = (2, 125) := by decide +kernel
theorem lgR : ∀ j, j < 4 → cget (lcR j).2.2.1 (lcR j).2.2.2 0 = (0, -1) ∧ cget (lcR j).2.2.1 (lcR j).2.2.2 2 = (2, ((54 + 2 * j : Nat) : Int)) := by decide +kernel
theorem lg124 : ∀ j, j < 4 → cget lc124.2.2.1 lc124.2.2.2 j = (0, -1) := by decide +kernel
theorem lrw_start {D : va_G} {cA : Nat → ClassId} {n : Nat} {H0 H : Heap} (hH : cHp D cA n H0 k_cs2 H) : lrw D cA n H := by
  have z : ∀ {cc : cCell} {j : Nat}, cget cc.2.2.1 cc.2.2.2 j = (0, -1) → cVal n cc j = .int (-1) := fun {cc j} e => by
    unfold cVal
    rw [e]
    rfl
  have r : ∀ {cc : cCell} {j k : Nat}, cget cc.2.2.1 cc.2.2.2 j = (2, (k : Int)) → cVal n cc j = .ref (n + k) := fun {cc j k} e => by
    unfold cVal
    rw [e]
    rfl
  have c0 := l_cell hH lc0_at lc_0.1 lc_0.2
  rw [Nat.add_zero] at c0
  have c52 := l_cell hH lc52_at lc_52.1 lc_52.2
  have c109 := l_cell hH lc109_at lc_69.1 lc_69.2
  have c124 := l_cell hH lc124_at lc_124.1 lc_124.2
  refine ⟨fun V hV => ?_, fun V hV j hj => ?_, fun V hV => ?_, fun j hj V hV => ?_, fun j hj V Vm Vw hV hm hw => ?_⟩
  · rw [kcell_uniq hV c0 (j := 9) (by rw [lT0_n]; decide)]
    exact r (k := 52) lg0
  · rw [kcell_uniq hV c52 (j := j) (by rw [lT32_n]; exact hj)]
    exact r (lg52 j hj)
  · have hV : kcell D cA lT6 (n + 109) H V := hV
    rw [kcell_uniq hV c109 (j := 34) (by rw [lT6_n]; decide), kcell_uniq hV c109 (j := 35) (by rw [lT6_n]; decide)]
    exact ⟨r (k := 124) lg109c.1, r (k := 125) lg109c.2⟩
  · rw [kcell_uniq hV (l_cell hH (lcR_at j hj) (lc_R j hj).1 (lc_R j hj).2) (j := 2) (by rw [lT30_n]; decide)]
    exact r (lgR j hj).2
  · refine Or.inl ⟨?_, ?_⟩
    · rw [kcell_uniq hV (l_cell hH (lcR_at j hj) (lc_R j hj).1 (lc_R j hj).2) (j := 0) (by rw [lT30_n]; decide)]
      exact z (lgR j hj).1
    · rw [kcell_uniq hm c124 (j := j) (by rw [lT51_n]; exact hj)]
      exact z (lg124 j hj)
theorem s_keptX {l : Launch} {D : va_G} {cA aS adV : Nat → Nat} {n : Nat} : ∀ (i : Nat) (C : kCt), k_ctX[i]? = some C → kMet l k_cl k_aty k_lg k_ns k_sk (k_mw.map (fun x => x.1)) D cA aS k_tt (sTy n k_tl aS) n (sX aS adV n) C := keptX (adV := adV) sX_ok sTy_typ sTy_str rfl sTy_S
section LWALK
variable {p : Program} {l : Launch} {e : Env} {s : State} {m : MethodId} {below : List Frame} {meth : Method} {c : Code} {H : Heap} {locs : List Loc} {cells slots b L I n : Nat} {ls : Array Slot} {i : Int32} {xs : Nat → Int32} {R : Room} {args : Array Value} {Q : State → Prop} {D : va_G} {cA aS adV : Nat → Nat}
set_option maxHeartbeats 4000000 in
set_option maxRecDepth 100000 in
/-- one round -/
theorem l_iter (hexec : p.tables.exec = Jvm.exec) (hb : c.code = code) (hml : c.maxLocals = 4) (hR : 2048 ≤ R.frames ∧ 84000 ≤ R.locals) (hcs : cells ≤ R.cells ∧ slots ≤ R.slots) (hown : s.vm.findClass "SilenceMatchLaw" = some m.cls) (hts : ∀ w ∈ k_lg, w.before args s = true) (hK : kK k_cl k_aty k_ns k_sk D cA aS s) (hXs : sX aS adV n s s.heap) (hi : i.toInt = (I : Int)) (hIL : I + 6 ≤ L) (hL : L ≤ 100000) (hls : ls.size = 4) (h0 : ls[0]? = some (.val (.ref b))) (h1 : ls[1]? = some (.val (.ref n))) (h2 : ls[2]? = some (.val (.ref (n + 109)))) (h3 : ls[3]? = some (.val (.int i))) (hbn : b < n) (hscr : va_X b L xs s s.heap) (hfr : ∀ q, q < n → H[q]? = s.heap[q]?) (hG : kgood D cA k_tt (sTy n k_tl aS) n H) (hm : lmd D cA k_tt (n + 109) (n + 110) (n + 111) H) (hf : lrw D cA n H)
    (kk : ∀ (H' : Heap) (L' : List Loc), kgood D cA k_tt (sTy n k_tl aS) n H' → (∀ q, q < n → H'[q]? = s.heap[q]?) → lmd D cA k_tt (n + 109) (n + 110) (n + 111) H' → lrw D cA n H' → (∀ q ∈ L', n ≤ q.base) → W p l e R s m args below meth c H' (locs ++ L') cells slots Q (F0 m 2121 ls [])) : W p l e R s m args below meth c H locs cells slots Q (F0 m 33 ls [.int (xs I &&& 127)]) := by
  have hv := k_and 127 (xs I) (by decide)
  rw [Int32.and_comm] at hv
  rw [show (127 : Int32).toInt = 127 from rfl] at hv
  generalize xs I &&& 127 = v at hv ⊢
  have hX : kXok (sX aS adV n) n := sX_ok
  have hT : kTyp k_tt (sTy n k_tl aS) := sTy_typ
  have t0 : sTy n k_tl aS n 0 := Or.inl ⟨0, rfl, rfl⟩
  have t1 : sTy n k_tl aS (n + 109) 36 := Or.inl ⟨109, rfl, rfl⟩
  have t2 : sTy n k_tl aS (n + 110) 37 := Or.inl ⟨110, rfl, rfl⟩
  have t3 : sTy n k_tl aS (n + 111) 38 := Or.inl ⟨111, rfl, rfl⟩
  have h37 : ∀ T : kT, k_tt[37]? = some T → 10 < T.2.1 := fun T h => by
    have e : T = lT7 := Option.some.inj (h.symm.trans lT7_at)
    rw [e, lT7_n]
    decide
  have h38 : ∀ T : kT, k_tt[38]? = some T → 240 < T.2.1 := fun T h => by
    have e : T = lT8 := Option.some.inj (h.symm.trans lT8_at)
    rw [e, lT8_n]
    decide
  have fin : ∀ (H' : Heap) (L' : List Loc), kgood D cA k_tt (sTy n k_tl aS) n H' → kfr n H H' → lmd D cA k_tt (n + 109) (n + 110) (n + 111) H' → lrw D cA n H' → (∀ q ∈ L', n ≤ q.base) → W p l e R s m args below meth c H' (locs ++ L') cells slots Q (F0 m 2121 ls []) := fun H' L' g1 g2 g3 g4 g5 => kk H' L' g1 (fun q hq => (g2.2 q hq).trans (hfr q hq)) g3 g4 g5
  by_cases hle : v.toInt ≤ 68
  · have hlt : v.toInt.toNat < lcs.length := by
      show v.toInt.toNat < 69
      omega
    have hq := List.getElem?_eq_getElem hlt
    generalize lcs[v.toInt.toNat] = q at hq
    have ho : loffs[(v.toInt - 0).toNat]? = some ((q.1 : Int) - 33) := by
      rw [Int.sub_zero, ← Array.getElem?_toList, loffs_ok, List.getElem?_map, hq]
      rfl
    refine lv_tableIn (tgt := q.1) hexec hb dl_33 (by omega) (by omega) ho (by omega) ?_
    obtain ⟨w1, w2, w3, w4, w5, w6, w7⟩ := lcs_ok q (List.mem_of_getElem? hq)
    by_cases k0 : q.2.2.2.2.2 = 0
    · obtain ⟨y2, y3⟩ := w5 k0
      have y1 := w2 (by omega)
      rcases l_stAB (xs := xs) (I := I) (a := n) hT hG hm lT6_at lT7_at (by rw [lT7_n]; decide) t0 t1 t2 t3 with z1 | ⟨ev, z1⟩
      · exact lcgP_ok hexec hb hml hR hcs hown hts k_lg_good wmL hK k_nsn hX hXs hT s_keptX (hts _ wl_287) w1 y1 y2 hi hIL hL hls h0 h1 h2 h3 hbn hscr hfr hG z1 (fun S2 x u st2 H' L' g1 g2 g3 g4 g5 g6 => fin H' L' g1 g2 (lend_ok hT h37 h38 hG hm g3 g5 (fun s0 h => by cases h) rfl rfl rfl t1 t2 t3 g6) (lrw_kkp hG g3 wf_M hf) g4)
      · exact lcgP_ok hexec hb hml hR hcs hown hts k_lg_good wmL hK k_nsn hX hXs hT s_keptX (hts _ wl_287) w1 y1 y3 hi hIL hL hls h0 h1 h2 h3 hbn hscr hfr hG z1 (fun S2 x u st2 H' L' g1 g2 g3 g4 g5 g6 => fin H' L' g1 g2 (lend_ok hT h37 h38 hG hm g3 g5 (fun s0 h => by cases h) rfl rfl rfl t1 t2 t3 g6) (lrw_kkp hG g3 wf_M hf) g4)
    · by_cases k1 : q.2.2.2.2.2 = 1
      · have y1 := w2 (by omega)
        obtain ⟨ev, z1, z2⟩ := l_stW (xs := xs) (I := I) (a := n) hT hG hm lT6_at t0 t1 t2 t3
        exact lcgP_ok hexec hb hml hR hcs hown hts k_lg_good wmL hK k_nsn hX hXs hT s_keptX (hts _ wl_287) w1 y1 (w6 k1) hi hIL hL hls h0 h1 h2 h3 hbn hscr hfr hG z1 (fun S2 x u st2 H' L' g1 g2 g3 g4 g5 g6 => fin H' L' g1 g2 (lend_ok hT h37 h38 hG hm g3 g5 (fun s0 h => okE_ext (z2 s0 h)) rfl rfl rfl t1 t2 t3 g6) (lrw_kkp hG g3 wf_W hf) g4)
      · have b1 := k32_in (xs (I + 1))
        have b1l : (-2147483648 : Int) ≤ (xs (I + 1)).toInt := b1.1
        have b1u : (xs (I + 1)).toInt ≤ (2147483647 : Int) := b1.2
        have b2 := k32_in (xs (I + 2))
        have b3 := k32_in (xs (I + 3))
        have b2l : (-2147483648 : Int) ≤ (xs (I + 2)).toInt := b2.1
        have b2u : (xs (I + 2)).toInt ≤ (2147483647 : Int) := b2.2
        have b3l : (-2147483648 : Int) ≤ (xs (I + 3)).toInt := b3.1
        have b3u : (xs (I + 3)).toInt ≤ (2147483647 : Int) := b3.2
        obtain ⟨ev, z1, z2⟩ := l_stW (xs := xs) (I := I) (a := n) hT hG hm lT6_at t0 t1 t2 t3
        by_cases k2 : q.2.2.2.2.2 = 2
        · have eq := w3 k2
          subst eq
          have go : ∀ (q0 q1 q2 : Int × Int) (cal : List (Nat × List Nat)), lcgP k_tt k_aty k_ctX owL cal wrW (lend wrW stW) (lq3 lsW q0 q1 q2) 1942 3 false 283 286 = true → (q0.1 ≤ (xs (I + 1)).toInt ∧ (xs (I + 1)).toInt ≤ q0.2) → (q1.1 ≤ (xs (I + 2)).toInt ∧ (xs (I + 2)).toInt ≤ q1.2) → (q2.1 ≤ (xs (I + 3)).toInt ∧ (xs (I + 3)).toInt ≤ q2.2) → W p l e R s m args below meth c H locs cells slots Q (F0 m 1942 ls []) := fun q0 q1 q2 cal hc y0 y1 y2 => lcgP_ok hexec hb hml hR hcs hown hts k_lg_good wmL hK k_nsn hX hXs hT s_keptX (hts _ wl_287) (show lkok 3 from w1) ld_66 hc hi hIL hL hls h0 h1 h2 h3 hbn hscr hfr hG (lq3_ok z1 y0 y1 y2) (fun S2 x u st2 H' L' g1 g2 g3 g4 g5 g6 => fin H' L' g1 g2 (lend_ok hT h37 h38 hG hm g3 g5 (fun s0 h => okE_ext (z2 s0 h)) rfl rfl rfl t1 t2 t3 g6) (lrw_kkp hG g3 wf_W hf) g4)
          by_cases x0 : (xs (I + 1)).toInt < 0
          · exact go _ _ _ _ lc_rowsn ⟨b1l, by show _ ≤ (-1 : Int); omega⟩ b2 b3
          · by_cases x1 : 3 < (xs (I + 1)).toInt
            · exact go _ _ _ _ lc_rowsp ⟨by show (4 : Int) ≤ _; omega, b1u⟩ b2 b3
            · have y0 : (0 : Int) ≤ (xs (I + 1)).toInt ∧ (xs (I + 1)).toInt ≤ 3 := ⟨by omega, by omega⟩
              by_cases x2 : (xs (I + 2)).toInt < 0
              · exact go _ _ _ _ lc_rowwn y0 ⟨b2l, by show _ ≤ (-1 : Int); omega⟩ b3
              · by_cases x3 : 3 < (xs (I + 2)).toInt
                · exact go _ _ _ _ lc_rowwp y0 ⟨by show (4 : Int) ≤ _; omega, b2u⟩ b3
                · have y1 : (0 : Int) ≤ (xs (I + 2)).toInt ∧ (xs (I + 2)).toInt ≤ 3 := ⟨by omega, by omega⟩
                  by_cases x4 : 60 < (xs (I + 3)).toInt
                  · exact go _ _ _ _ lc_rownp y0 y1 ⟨by show (61 : Int) ≤ _; omega, b3u⟩
                  · by_cases x5 : (xs (I + 3)).toInt < 0
                    · exact go _ _ _ _ lc_rownn y0 y1 ⟨b3l, by show _ ≤ (-1 : Int); omega⟩
                    · exact lrow_v (K := (xs (I + 1)).toInt.toNat) hexec hb hml hR hcs hown hts wmL hK hXs s_keptX (hts _ wl_287) (by omega) ld_66 (lc_rowC _ (by omega)) (lc_rowM _ (by omega)) hi hIL hL hls h0 h1 h2 h3 (by omega) y1 ⟨by omega, by omega⟩ hbn hscr hfr hG hm hf h37 h38 fin
        · have eq := w4 (by omega)
          subst eq
          have go : ∀ (S : kS) (ra : List Nat) (cal : List (Nat × List Nat)) (ev : List Int), lcgR k_tt k_aty k_ctX owL cal wrW (lend wrW stW) S 2058 5 294 297 = true → kst D cA k_tt (sTy n k_tl aS) (lenv xs I ++ ev) (n :: (n + 109) :: (n + 110) :: (n + 111) :: ra) (lsk S []) H [] [] → (∀ s0 ∈ stW, okE (lenv xs I ++ ev) s0) → W p l e R s m args below meth c H locs cells slots Q (F0 m 2058 ls []) := fun S ra cal ev hc z1 z2 => lcgR_ok hexec hb hml hR hcs hown hts k_lg_good wmL hK k_nsn hX hXs hT s_keptX (hts _ wl_287) (show lkok 5 from w1) ld_68 hc hi hIL hL hls h0 h1 h2 h3 hbn hscr hfr hG z1 (fun S2 x u st2 H' L' g1 g2 g3 g4 g5 g6 => fin H' L' g1 g2 (lend_ok hT h37 h38 hG hm g3 g5 (fun s0 h => okE_ext (z2 s0 h)) rfl rfl rfl t1 t2 t3 g6) (lrw_kkp hG g3 wf_W hf) g4)
          by_cases x0 : (xs (I + 1)).toInt < 0
          · exact go _ _ _ _ lc_xn (lsn_ok z1 rfl b1l (by show _ ≤ (-1 : Int); omega)) z2
          · by_cases x1 : 3 < (xs (I + 1)).toInt
            · exact go _ _ _ _ lc_xp (lsn_ok z1 rfl (by show (4 : Int) ≤ _; omega) b1u) z2
            · have y0l : (0 : Int) ≤ (xs (I + 1)).toInt := by omega
              have y0u : (xs (I + 1)).toInt ≤ (3 : Int) := by omega
              by_cases x2 : (xs (I + 3)).toInt < 0
              · exact go _ _ _ _ lc_xon (lsn_ok (lsn_ok z1 rfl y0l y0u) rfl b3l (by show _ ≤ (-1 : Int); omega)) z2
              · by_cases x3 : 3 < (xs (I + 3)).toInt
                · exact go _ _ _ _ lc_xop (lsn_ok (lsn_ok z1 rfl y0l y0u) rfl (by show (4 : Int) ≤ _; omega) b3u) z2
                · have y2l : (0 : Int) ≤ (xs (I + 3)).toInt := by omega
                  have y2u : (xs (I + 3)).toInt ≤ (3 : Int) := by omega
                  obtain ⟨ev2, S, hS, hor, z3⟩ := l_stPa (xs := xs) (I := I) (K := (xs (I + 1)).toInt.toNat) (K' := (xs (I + 3)).toInt.toNat) hG hm hf (by omega) (by omega) (by omega) (by omega)
                  rcases hor with rfl | rfl | rfl | ⟨c3, hc3, rfl | rfl⟩
                  · exact go _ _ _ _ lc_xE (lsn_ok (lsn_ok hS rfl y0l y0u) rfl y2l y2u) z3
                  · exact go _ _ _ _ lc_xFE (lsn_ok (lsn_ok hS rfl y0l y0u) rfl y2l y2u) z3
                  · exact go _ _ _ _ lc_xFF (lsn_ok (lsn_ok hS rfl y0l y0u) rfl y2l y2u) z3
                  · exact go _ _ _ _ (lc_xL c3 hc3) (lsn_ok (lsn_ok hS rfl y0l y0u) rfl y2l y2u) z3
                  · exact go _ _ _ _ (lc_xG c3 hc3) (lsn_ok (lsn_ok hS rfl y0l y0u) rfl y2l y2u) z3
  · refine lv_tableOut (tgt := 2121) hexec hb dl_33 (Or.inr (by omega)) (by decide) ?_
    have := fin H [] hG kfr_rfl hm hf (fun q hq => by cases hq)
    rwa [List.append_nil] at this
end LWALK
section LLOOP
variable {p : Program} {l : Launch} {e : Env} {s : State} {m : MethodId} {below : List Frame} {meth : Method} {c : Code} {cells slots b L n : Nat} {xs : Nat → Int32} {D : va_G} {cA aS adV : Nat → Nat}
set_option maxHeartbeats 4000000 in
/-- all rounds -/
theorem l_loop (hexec : p.tables.exec = Jvm.exec) (hb : c.code = code) (hml : c.maxLocals = 4) (hrt : meth.sig.returnType = ret) (hlk : meth.locks = false) (hcs : cells ≤ 600000 ∧ slots ≤ 7302250) (hown : s.vm.findClass "SilenceMatchLaw" = some m.cls) (hts : ∀ w ∈ k_lg, w.before #[Value.ref b] s = true) (hK : kK k_cl k_aty k_ns k_sk D cA aS s) (hXs : sX aS adV n s s.heap) (hL : L ≤ 100000) (hn : s.heap.size = n) (hbn : b < n) (hscr : va_X b L xs s s.heap) : ∀ (f I : Nat) (i : Int32) (ls : Array Slot) (H : Heap) (locs : List Loc), L ≤ I + 6 * f → i.toInt = (I : Int) → lv_has ls 4 [(3, .int i), (2, .ref (n + 109)), (1, .ref n), (0, .ref b)] → (∀ q, q < n → H[q]? = s.heap[q]?) → kgood D cA k_tt (sTy n k_tl aS) n H → lmd D cA k_tt (n + 109) (n + 110) (n + 111) H → lrw D cA n H → (∀ q ∈ locs, n ≤ q.base) → W p l e room_1 s m #[Value.ref b] below meth c H locs cells slots (lw_Z below #[Value.ref b] s) (F0 m 18 ls [])
  | 0, I, i, ls, H, locs, hf, hi, hlv, hfr, hG, hm, hf2, hlo => l_head hexec hb (lv_at hlv 3 rfl) (lv_at hlv 0 rfl) (va_X.kept hscr (hfr b hbn)) hi hL (fun h => by omega) (fun _ => l_end hexec hb hrt hlk (fun q hq => by rw [hn]; exact hlo q hq) hcs.1 hcs.2)
  | f + 1, I, i, ls, H, locs, hf, hi, hlv, hfr, hG, hm, hf2, hlo => by
    refine l_head hexec hb (lv_at hlv 3 rfl) (lv_at hlv 0 rfl) (va_X.kept hscr (hfr b hbn)) hi hL (fun hIL => ?_) (fun _ => l_end hexec hb hrt hlk (fun q hq => by rw [hn]; exact hlo q hq) hcs.1 hcs.2)
    refine l_iter hexec hb hml ⟨by decide, by decide⟩ hcs hown hts hK hXs hi hIL hL hlv.1 (lv_at hlv 3 rfl) (lv_at hlv 2 rfl) (lv_at hlv 1 rfl) (lv_at hlv 0 rfl) hbn hscr hfr hG hm hf2 (fun H5 L5 g5 f5 m5 q5 l5 => ?_)
    refine lv_iinc (k := 0) hexec hb dl_2121 hlv rfl rfl (by decide) rfl (fun ls4 hlv4 => ?_)
    refine lv_goto (tgt := 18) hexec hb dl_2124 rfl ?_
    refine l_loop hexec hb hml hrt hlk hcs hown hts hK hXs hL hn hbn hscr f (I + 6) (i + Int32.ofInt 6) ls4 H5 (locs ++ L5) (by omega) ?_ hlv4 f5 g5 m5 q5 (fun q hq => (List.mem_append.mp hq).elim (hlo q) (l5 q))
    rw [Int32.toInt_add, hi, show (Int32.ofInt 6).toInt = 6 from rfl, k32_bm (by show (-2147483648 : Int) ≤ _; omega) (by show _ ≤ (2147483647 : Int); omega)]
    omega
end LLOOP
