theorem k_lcmp (x y : Int64) : (lg_cmp x y).toInt = kcmp x.toInt y.toInt := by
  unfold kcmp lg_cmp
  by_cases h1 : y < x
  · have g1 := Int64.lt_iff_toInt_lt.mp h1
    have g2 : ¬ x.toInt < y.toInt := by omega
    have g3 : ¬ x.toInt = y.toInt := by omega
    simp [h1, g2, g3]
  · have g1 : ¬ y.toInt < x.toInt := fun g => h1 (Int64.lt_iff_toInt_lt.mpr g)
    by_cases h2 : x < y
    · have g2 := Int64.lt_iff_toInt_lt.mp h2
      have g4 : ¬ x = y := fun e => by rw [e] at g2; omega
      simp [h1, g2, g4]
    · have g2 : ¬ x.toInt < y.toInt := fun g => h2 (Int64.lt_iff_toInt_lt.mpr g)
      have g3 : x.toInt = y.toInt := by omega
      have e : x = y := Int64.toInt_inj.mp g3
      simp [g2, g3, h1, h2, e]
section KS1F
variable {p : Program} {l : Launch} {e : Env} {R : Room} {s : State} {m : MethodId} {args : Array Value} {below : List Frame} {meth : Method} {c : Code} {H : Heap} {locs : List Loc} {cells slots : Nat} {Q : State → Prop}
variable {cc : ByteArray} {pc : Nat} {ls : Array Slot} {cl : List vw_C} {aty : List FieldType} {nw lw : List Cond} {sk : kSk} {cA aS : Nat → Nat}
variable {D : va_G} {tt : List kT} {Ty : Nat → Nat → Prop} {env : List Int} {ren : List Nat} {S : kS} {lv : List (Nat × Value)} {st : List Value}
set_option maxHeartbeats 4000000 in
theorem kstep1_ok (hexec : p.tables.exec = Jvm.exec) (hb : c.code = cc) {own : String} {ow : kOw} {nL : Nat} {ins : Instr} {S' : kS} (hown : s.vm.findClass own = some m.cls) (hts : ∀ w ∈ lw, w.before args s = true) (how : kOwC own ow lw sk) (hK : kK cl aty nw sk D cA aS s) (hTyS : ∀ (j : Nat) (q : String × Nat × String), sk[j]? = some q → Ty (aS j) (ksn j))
    (h : kst D cA tt Ty env ren S H lv st) (hlv : lv_has ls nL lv) (hd : decode cc pc = .ok (ins, kln ins)) (hs : kstep1 ow nL ins S = some S')
    (kk : ∀ x u lv' st' ls', kst D cA tt Ty (env ++ x) (ren ++ u) S' H lv' st' → lv_has ls' nL lv' → W p l e R s m args below meth c H locs cells slots Q (F0 m (pc + kln ins) ls' st')) : W p l e R s m args below meth c H locs cells slots Q (F0 m pc ls st) := by
  have k0 : ∀ {lv' : List (Nat × Value)} {st' : List Value} {ls' : Array Slot}, kst D cA tt Ty env ren S' H lv' st' → lv_has ls' nL lv' → W p l e R s m args below meth c H locs cells slots Q (F0 m (pc + kln ins) ls' st') := fun g1 g2 => kk [] [] _ _ _ (by rw [List.append_nil, List.append_nil]; exact g1) g2
  have hk := h.2.2.2.2.1
  unfold kstep1 at hs
  split at hs
  -- iconst
  · rename_i n
    split at hs
    · rename_i hi
      obtain rfl := Option.some.inj hs
      obtain ⟨i1, i2⟩ := kin_ok hi
      exact lv_iconst hexec hb hd rfl (k0 (kpsh_ok h ⟨_, rfl, by rw [k_ofInt i1 i2]; exact kcst_ev⟩ hk) hlv)
    · cases hs
  -- bipush
  · rename_i n
    split at hs
    · rename_i hi
      obtain rfl := Option.some.inj hs
      obtain ⟨i1, i2⟩ := kin_ok hi
      exact lv_bipush hexec hb hd rfl (k0 (kpsh_ok h ⟨_, rfl, by
        rw [Int8.toInt_toInt32, Int8.toInt_ofInt, show Int8.size = 256 from rfl, Int.bmod_eq_of_le (by omega) (by omega)]
        exact kcst_ev⟩ hk) hlv)
    · cases hs
  -- sipush
  · rename_i n
    split at hs
    · rename_i hi
      obtain rfl := Option.some.inj hs
      obtain ⟨i1, i2⟩ := kin_ok hi
      exact lv_sipush hexec hb hd rfl (k0 (kpsh_ok h ⟨_, rfl, by
        rw [Int16.toInt_toInt32, Int16.toInt_ofInt, show Int16.size = 65536 from rfl, Int.bmod_eq_of_le (by omega) (by omega)]
        exact kcst_ev⟩ hk) hlv)
    · cases hs
  -- lconst
  · rename_i n
    obtain rfl := Option.some.inj hs
    exact lv_lconst hexec hb hd rfl (k0 (kpsh_ok h ⟨_, rfl, by
      have e2 : (Int64.ofNat (n : Nat)).toInt = Int.ofNat n.val := by
        match n with
        | ⟨0, _⟩ => rfl
        | ⟨1, _⟩ => rfl
      rw [e2]
      exact kcst_ev⟩ hk) hlv)
  -- ldc
  · rename_i i
    split at hs
    · rename_i n h1
      obtain rfl := Option.some.inj hs
      obtain ⟨v, e1, e2⟩ := how.1 _ (kfnd_mem h1)
      exact lv_ldc hexec hb hown (hts _ e2) hd (k0 (kpsh_ok h ⟨v, rfl, by rw [e1]; exact kcst_ev⟩ hk) hlv)
    · split at hs
      · rename_i t h1
        obtain rfl := Option.some.inj hs
        obtain ⟨j, tx, e1, e2⟩ := how.2.2 _ (kfnd_mem h1)
        have e2 : t = ksn j := e2
        subst e2
        obtain ⟨g1, g2⟩ := kpushR_ok h (hTyS j _ e1)
        exact va_ldcS hexec hb hown (hK.2.2.2 j _ e1) hd (kk [] [aS j] _ _ _ (kpsh_ok g1 ⟨aS j, rfl, g2⟩ (kStk_ext hk)) hlv)
      · cases hs
  -- ldc_w
  · rename_i i
    split at hs
    · rename_i n h1
      obtain rfl := Option.some.inj hs
      obtain ⟨v, e1, e2⟩ := how.1 _ (kfnd_mem h1)
      exact lv_ldcw hexec hb hown (hts _ e2) hd (k0 (kpsh_ok h ⟨v, rfl, by rw [e1]; exact kcst_ev⟩ hk) hlv)
    · cases hs
  -- ldc2_w
  · rename_i i
    split at hs
    · rename_i n h1
      obtain rfl := Option.some.inj hs
      obtain ⟨v, e1, e2⟩ := how.2.1 _ (kfnd_mem h1)
      exact lv_ldc2 hexec hb hown (hts _ e2) hd (k0 (kpsh_ok h ⟨v, rfl, by rw [e1]; exact kcst_ev⟩ hk) hlv)
    · cases hs
  -- loads
  · obtain ⟨x, g1, g2, g3, -, -⟩ := kload1_ok h hlv hs
    obtain ⟨n, rfl⟩ := g3 rfl
    exact lv_iload_n hexec hb hd rfl g1 (k0 g2 hlv)
  · obtain ⟨x, g1, g2, g3, -, -⟩ := kload1_ok h hlv hs
    obtain ⟨n, rfl⟩ := g3 rfl
    exact lv_iload hexec hb hd g1 (k0 g2 hlv)
  · obtain ⟨x, g1, g2, -, g3, -⟩ := kload1_ok h hlv hs
    obtain ⟨n, rfl⟩ := g3 rfl
    exact lv_lload_n hexec hb hd rfl g1 (k0 g2 hlv)
  · obtain ⟨x, g1, g2, -, g3, -⟩ := kload1_ok h hlv hs
    obtain ⟨n, rfl⟩ := g3 rfl
    exact lv_lload hexec hb hd g1 (k0 g2 hlv)
  · obtain ⟨x, g1, g2, -, -, g3⟩ := kload1_ok h hlv hs
    obtain ⟨n, rfl⟩ := g3 rfl
    exact lv_aload_n hexec hb hd rfl g1 (k0 g2 hlv)
  · obtain ⟨x, g1, g2, -, -, g3⟩ := kload1_ok h hlv hs
    obtain ⟨n, rfl⟩ := g3 rfl
    exact lv_aload hexec hb hd g1 (k0 g2 hlv)
  -- stores
  · obtain ⟨n, st', rfl, g1, g2⟩ := kstor1_i h hs
    exact lv_istore_n hexec hb hd rfl hlv g1 rfl (fun ls' hl' => k0 g2 hl')
  · obtain ⟨n, st', rfl, g1, g2⟩ := kstor1_i h hs
    exact lv_istore hexec hb hd hlv g1 rfl (fun ls' hl' => k0 g2 hl')
  · obtain ⟨n, st', rfl, g1, g2⟩ := kstor1_l h hs
    exact lv_lstore_n hexec hb hd rfl hlv g1 rfl (fun ls' hl' => k0 g2 hl')
  · obtain ⟨n, st', rfl, g1, g2⟩ := kstor1_l h hs
    exact lv_lstore hexec hb hd hlv g1 rfl (fun ls' hl' => k0 g2 hl')
  · obtain ⟨n, st', rfl, g1, g2⟩ := kstor1_r h hs
    exact lv_astore_n hexec hb hd rfl hlv g1 rfl (fun ls' hl' => k0 g2 hl')
  · obtain ⟨n, st', rfl, g1, g2⟩ := kstor1_r h hs
    exact lv_astore hexec hb hd hlv g1 rfl (fun ls' hl' => k0 g2 hl')
  -- iinc
  · rename_i i n
    split at hs
    · rename_i f h1
      split at hs
      · rename_i h2
        split at hs
        · rename_i h3
          obtain ⟨i1, i2⟩ := kin_ok h3
          obtain ⟨x, g1, g2⟩ := kLoc_mem h.2.2.2.1 (klocv_mem h1)
          obtain ⟨a, rfl, g3⟩ := g2
          obtain ⟨k, hk2⟩ := List.getElem?_of_mem g1
          have hr : kresok env (kri S (kofs f n) k32) (a + Int32.ofInt n).toInt := kri_ok h.1 (kofs_ev g3) (fun q1 q2 => by rw [Int32.toInt_add, k_ofInt i1 i2, k32_bm q1 q2]) (k32_in _)
          split at hs
          · rename_i g hg
            obtain rfl := Option.some.inj hs
            rw [hg] at hr
            exact lv_iinc hexec hb hd hlv hk2 rfl (Nat.blt_eq.mp h2) rfl (fun ls' hl' => k0 ⟨h.1, h.2.1, h.2.2.1, kput1_ok h.2.2.2.1 ⟨_, rfl, hr⟩, hk, h.2.2.2.2.2⟩ hl')
          · rename_i q hq
            obtain rfl := Option.some.inj hs
            rw [hq] at hr
            obtain ⟨w1, w2⟩ := kpush_ok (q := q) h hr.1 hr.2
            exact lv_iinc hexec hb hd hlv hk2 rfl (Nat.blt_eq.mp h2) rfl (fun ls' hl' => kk [(a + Int32.ofInt n).toInt] [] _ _ _ ⟨w1.1, w1.2.1, w1.2.2.1, kput1_ok w1.2.2.2.1 ⟨_, rfl, w2⟩, w1.2.2.2.2.1, w1.2.2.2.2.2⟩ hl')
        · cases hs
      · cases hs
    · cases hs
  -- dup
  · split at hs
    · rename_i v sa h1
      rw [h1] at hk
      cases st with
      | nil => exact hk.elim
      | cons x sc =>
        split at hs
        · rename_i h2
          obtain rfl := Option.some.inj hs
          exact lv_dup hexec hb hd (k_cat hk.1 h2) (k0 (kpsh_ok h hk.1 hk) hlv)
        · cases hs
    · cases hs
  -- dup2
  · split at hs
    · rename_i v w sa h1
      rw [h1] at hk
      cases st with
      | nil => exact hk.elim
      | cons x sc =>
        cases sc with
        | nil => exact hk.2.elim
        | cons y sd =>
          split at hs
          · rename_i h2
            obtain rfl := Option.some.inj hs
            exact lv_dup2_2 hexec hb hd (k_cat hk.1 h2) (k0 (kpsh_ok h hk.1 hk) hlv)
          · rename_i h2
            split at hs
            · rename_i h3
              obtain rfl := Option.some.inj hs
              exact lv_dup2_11 hexec hb hd (k_cat hk.1 h2) (k_cat hk.2.1 h3) (k0 ⟨h.1, h.2.1, h.2.2.1, h.2.2.2.1, ⟨hk.1, hk.2.1, hk⟩, h.2.2.2.2.2⟩ hlv)
            · cases hs
    · rename_i v h1
      rw [h1] at hk
      cases st with
      | nil => exact hk.elim
      | cons x sc =>
        split at hs
        · rename_i h2
          obtain rfl := Option.some.inj hs
          exact lv_dup2_2 hexec hb hd (k_cat hk.1 h2) (k0 (kpsh_ok h hk.1 hk) hlv)
        · cases hs
    · cases hs
  -- pop
  · split at hs
    · rename_i v sa h1
      rw [h1] at hk
      cases st with
      | nil => exact hk.elim
      | cons x sc =>
        split at hs
        · rename_i h2
          obtain rfl := Option.some.inj hs
          exact lv_pop hexec hb hd (k_cat hk.1 h2) (k0 ⟨h.1, h.2.1, h.2.2.1, h.2.2.2.1, hk.2, h.2.2.2.2.2⟩ hlv)
        · cases hs
    · cases hs
  -- pop2
  · split at hs
    · rename_i v sa h1
      rw [h1] at hk
      cases st with
      | nil => exact hk.elim
      | cons x sc =>
        split at hs
        · rename_i h2
          obtain rfl := Option.some.inj hs
          exact lv_pop2_2 hexec hb hd (k_cat hk.1 h2) (k0 ⟨h.1, h.2.1, h.2.2.1, h.2.2.2.1, hk.2, h.2.2.2.2.2⟩ hlv)
        · cases hs
    · cases hs
  -- ineg
  · split at hs
    · rename_i f sa h1
      rw [h1] at hk
      cases st with
      | nil => exact hk.elim
      | cons x sc =>
        obtain rfl := Option.some.inj hs
        obtain ⟨⟨n, rfl, e2⟩, hk2⟩ := hk
        obtain ⟨x, u, g⟩ := kpres_i (n := -n) h hk2 (kri_ok h.1 (kneg_ev e2) (fun q1 q2 => by rw [Int32.toInt_neg, k32_bm q1 q2]) (k32_in _))
        exact lv_ineg hexec hb hd (kk x u _ _ _ g hlv)
    · cases hs
  -- i2l
  · split at hs
    · rename_i f sa h1
      rw [h1] at hk
      cases st with
      | nil => exact hk.elim
      | cons x sc =>
        obtain rfl := Option.some.inj hs
        obtain ⟨⟨n, rfl, e2⟩, hk2⟩ := hk
        exact lv_i2l hexec hb hd rfl (k0 (kpsh_ok h ⟨_, rfl, by rw [k_i2l]; exact e2⟩ hk2) hlv)
    · cases hs
  -- l2i
  · split at hs
    · rename_i f sa h1
      rw [h1] at hk
      cases st with
      | nil => exact hk.elim
      | cons x sc =>
        obtain rfl := Option.some.inj hs
        obtain ⟨⟨n, rfl, e2⟩, hk2⟩ := hk
        obtain ⟨x, u, g⟩ := kpres_i (n := n.toInt32) h hk2 (kri_ok h.1 e2 (fun q1 q2 => k_l2i q1 q2) (k32_in _))
        exact lv_l2i hexec hb hd rfl (kk x u _ _ _ g hlv)
    · cases hs
  -- i2b
  · split at hs
    · rename_i f sa h1
      rw [h1] at hk
      cases st with
      | nil => exact hk.elim
      | cons x sc =>
        obtain rfl := Option.some.inj hs
        obtain ⟨⟨n, rfl, e2⟩, hk2⟩ := hk
        obtain ⟨x, u, g⟩ := kpres_i (n := n.toInt8.toInt32) h hk2 (kri_ok (q := (-128, 127)) h.1 e2 (fun q1 q2 => k_i2b q1 q2) (k_i2b_in n))
        exact lv_i2b hexec hb hd rfl (kk x u _ _ _ g hlv)
    · cases hs
  -- i2s
  · split at hs
    · rename_i f sa h1
      rw [h1] at hk
      cases st with
      | nil => exact hk.elim
      | cons x sc =>
        obtain rfl := Option.some.inj hs
        obtain ⟨⟨n, rfl, e2⟩, hk2⟩ := hk
        obtain ⟨x, u, g⟩ := kpres_i (n := n.toInt16.toInt32) h hk2 (kri_ok (q := (-32768, 32767)) h.1 e2 (fun q1 q2 => k_i2s q1 q2) (k_i2s_in n))
        exact lv_i2s hexec hb hd rfl (kk x u _ _ _ g hlv)
    · cases hs
  -- lcmp
  · split at hs
    · rename_i g f sa h1
      rw [h1] at hk
      cases st with
      | nil => exact hk.elim
      | cons x sc =>
        cases sc with
        | nil => exact hk.2.elim
        | cons y sd =>
          obtain rfl := Option.some.inj hs
          obtain ⟨⟨n, rfl, e2⟩, ⟨n', rfl, e3⟩, hk2⟩ := hk
          exact W.lcmp hexec hb hd (k0 (kpsh_ok h ⟨_, _, _, rfl, e3, e2, k_lcmp n' n⟩ hk2) hlv)
    · cases hs
  -- lshl
  · split at hs
    · rename_i g f sa h1
      rw [h1] at hk
      cases st with
      | nil => exact hk.elim
      | cons x sc =>
        cases sc with
        | nil => exact hk.2.elim
        | cons y sd =>
          obtain rfl := Option.some.inj hs
          obtain ⟨⟨n, rfl, e2⟩, ⟨n', rfl, e3⟩, hk2⟩ := hk
          obtain ⟨x, u, g⟩ := kpres_l (n := n' <<< (n.toInt64 &&& 63)) h hk2 (r := .inr k64) (k64_in _)
          exact lv_lshl hexec hb hd rfl (kk x u _ _ _ g hlv)
    · cases hs
  -- lshr
  · split at hs
    · rename_i g f sa h1
      rw [h1] at hk
      cases st with
      | nil => exact hk.elim
      | cons x sc =>
        cases sc with
        | nil => exact hk.2.elim
        | cons y sd =>
          obtain rfl := Option.some.inj hs
          obtain ⟨⟨n, rfl, e2⟩, ⟨n', rfl, e3⟩, hk2⟩ := hk
          obtain ⟨x, u, g⟩ := kpres_l (n := n' >>> (n.toInt64 &&& 63)) h hk2 (r := .inr k64) (k64_in _)
          exact lv_lshr hexec hb hd rfl (kk x u _ _ _ g hlv)
    · cases hs
  -- arithmetic
  · split at hs
    · rename_i g f sa h1
      rw [h1] at hk
      cases st with
      | nil => exact hk.elim
      | cons x sc =>
        cases sc with
        | nil => exact hk.2.elim
        | cons y sd =>
          obtain ⟨⟨n, rfl, e2⟩, ⟨n', rfl, e3⟩, hk2⟩ := hk
          split at hs
          · rename_i r hr
            obtain rfl := Option.some.inj hs
            obtain ⟨g1, g2⟩ := kib_ok h e3 e2 hr
            obtain ⟨x, u, g3⟩ := kpres_i h hk2 g1
            exact r_ib hexec hb hr g2 hd (kk x u _ _ _ g3 hlv)
          · cases hs
    · rename_i g f sa h1
      rw [h1] at hk
      cases st with
      | nil => exact hk.elim
      | cons x sc =>
        cases sc with
        | nil => exact hk.2.elim
        | cons y sd =>
          obtain ⟨⟨n, rfl, e2⟩, ⟨n', rfl, e3⟩, hk2⟩ := hk
          split at hs
          · rename_i r hr
            obtain rfl := Option.some.inj hs
            obtain ⟨g1, g2⟩ := klo_ok h e3 e2 hr
            obtain ⟨x, u, g3⟩ := kpres_l h hk2 g1
            exact r_lo hexec hb hr g2 hd (kk x u _ _ _ g3 hlv)
          · cases hs
    · cases hs
end KS1F
