section KEOK
variable {D : va_G} {cA : Nat → ClassId} {tt : List kT} {Ty : Nat → Nat → Prop} {env zs : List Int} {ren as : List Nat} {S : kS} {H : Heap} {lv : List (Nat × Value)} {st : List Value} {sg : List kL} {sr : List Nat}
theorem kchV_ok {v w : kV} {x : Value} (h : kst D cA tt Ty env ren S H lv st) (hs : kSg env sg zs) (hr : kSr ren sr as) (hw : kvok env ren w x) (he : kchV S sg sr v w = true) : kvok zs as v x := by
  unfold kchV at he
  cases h1 : ksubV sg sr v with
  | none => rw [h1] at he; cases he
  | some v' =>
    rw [h1] at he
    refine (ksubV_ok hs hr h1).mpr ?_
    match v, h1 with
    | .inl f, h1 =>
      unfold ksubV at h1
      cases h2 : ksubst sg f with
      | none => simp [h2] at h1
      | some g =>
        simp only [h2] at h1
        obtain rfl := Option.some.inj h1
        obtain ⟨z, -, e2⟩ := ksubst_ok hs h2
        match w, hw, he with
        | .inl g', ⟨n, e3, e4⟩, he => exact ⟨n, e3, by rw [e2, kfeq_ok h e2 e4 he]⟩
        | .inr (.inl _), _, he => cases he
        | .inr (.inr (.inl _)), _, he => cases he
        | .inr (.inr (.inr _)), _, he => cases he
    | .inr (.inl f), h1 =>
      unfold ksubV at h1
      cases h2 : ksubst sg f with
      | none => simp [h2] at h1
      | some g =>
        simp only [h2] at h1
        obtain rfl := Option.some.inj h1
        obtain ⟨z, -, e2⟩ := ksubst_ok hs h2
        match w, hw, he with
        | .inr (.inl g'), ⟨n, e3, e4⟩, he => exact ⟨n, e3, by rw [e2, kfeq_ok h e2 e4 he]⟩
        | .inl _, _, he => cases he
        | .inr (.inr (.inl _)), _, he => cases he
        | .inr (.inr (.inr _)), _, he => cases he
    | .inr (.inr (.inl k)), h1 =>
      unfold ksubV at h1
      cases h2 : sr[k]? with
      | none => simp [h2] at h1
      | some g =>
        simp only [h2] at h1
        obtain rfl := Option.some.inj h1
        match w, hw, he with
        | .inr (.inr (.inl j)), hw, he =>
          have e : g = j := Nat.beq_eq.mp he
          subst e
          exact hw
        | .inl _, _, he => cases he
        | .inr (.inl _), _, he => cases he
        | .inr (.inr (.inr _)), _, he => cases he
    | .inr (.inr (.inr _)), h1 => cases h1
theorem klocv_mem : ∀ {l : List (Nat × kV)} {i : Nat} {v : kV}, klocv l i = some v → (i, v) ∈ l
  | [], i, v, h => by cases h
  | q :: t, i, v, h => by
    unfold klocv at h
    cases h1 : Nat.beq q.1 i with
    | false => rw [h1] at h; exact List.mem_cons_of_mem _ (klocv_mem h)
    | true =>
      rw [h1] at h
      have e1 := Nat.beq_eq.mp h1
      have e3 : q.2 = v := Option.some.inj h
      subst e1; subst e3
      exact List.mem_cons_self
theorem kLoc_mem : ∀ {l : List (Nat × kV)} {m : List (Nat × Value)} {i : Nat} {v : kV}, kLoc env ren l m → (i, v) ∈ l → ∃ x, (i, x) ∈ m ∧ kvok env ren v x
  | [], _, i, v, _, hm => by cases hm
  | a :: l, [], i, v, h, _ => h.elim
  | a :: l, b :: m, i, v, h, hm => by
    rcases List.mem_cons.mp hm with e | hm
    · subst e
      refine ⟨b.2, ?_, h.2.1⟩
      have e : i = b.1 := h.1
      rw [e]
      exact List.mem_cons_self
    · obtain ⟨x, h1, h2⟩ := kLoc_mem h.2.2 hm
      exact ⟨x, List.mem_cons_of_mem _ h1, h2⟩
theorem kStk_at : ∀ {l : List kV} {m : List Value} {i : Nat} {v : kV}, kStk env ren l m → l[i]? = some v → ∃ x, m[i]? = some x ∧ kvok env ren v x
  | [], _, i, v, _, hm => by simp at hm
  | a :: l, [], i, v, h, _ => h.elim
  | a :: l, b :: m, 0, v, h, hm => by
    have e : a = v := by simpa using hm
    subst e
    exact ⟨b, rfl, h.1⟩
  | a :: l, b :: m, i + 1, v, h, hm => by
    obtain ⟨x, h1, h2⟩ := kStk_at (i := i) (v := v) h.2 (by simpa using hm)
    exact ⟨x, by simpa using h1, h2⟩
theorem kchI_ok (h : kst D cA tt Ty env ren S H lv st) : ∀ {iv : kQ} {l : List kL} {zs : List Int}, kSg env l zs → kchI S iv l = true → kI zs iv
  | [], [], [], _, _ => ⟨rfl, fun k q z hk => by simp at hk⟩
  | [], [], _ :: _, hs, _ => hs.elim
  | [], _ :: _, _, _, hc => by simp [kchI] at hc
  | _ :: _, [], _, _, hc => by simp [kchI] at hc
  | _ :: _, _ :: _, [], hs, _ => hs.elim
  | q :: iv, g :: l, z :: zs, hs, hc => by
    unfold kchI at hc
    cases h1 : kbt S g q.1 q.2 with
    | false => rw [h1] at hc; cases hc
    | true =>
      rw [h1] at hc
      have h2 := kchI_ok h hs.2 hc
      refine ⟨by simp [h2.1], fun k r w hk hw => ?_⟩
      cases k with
      | zero =>
        have e1 : q = r := by simpa using hk
        have e2 : z = w := by simpa using hw
        subst e1; subst e2
        exact kbt_ok h hs.1 h1
      | succ k => exact h2.2 k r w (by simpa using hk) (by simpa using hw)
theorem kchR_ok (h : kst D cA tt Ty env ren S H lv st) : ∀ {rt l as : List Nat}, kSr ren l as → kchR S rt l = true → kRt Ty as rt
  | [], [], [], _, _ => ⟨rfl, fun k t a hk => by simp at hk⟩
  | [], [], _ :: _, hs, _ => hs.elim
  | [], _ :: _, _, _, hc => by simp [kchR] at hc
  | _ :: _, [], _, _, hc => by simp [kchR] at hc
  | _ :: _, _ :: _, [], hs, _ => hs.elim
  | t :: rt, g :: l, a :: as, hs, hc => by
    unfold kchR at hc
    cases h1 : S.2.1[g]? with
    | none => rw [h1] at hc; cases hc
    | some t' =>
      simp only [h1] at hc
      cases h3 : Nat.beq t' t with
      | false => rw [h3] at hc; cases hc
      | true =>
        rw [h3] at hc
        have e := Nat.beq_eq.mp h3
        subst e
        have h2 := kchR_ok h hs.2 hc
        refine ⟨by simp [h2.1], fun k r w hk hw => ?_⟩
        cases k with
        | zero =>
          have e1 : t' = r := by simpa using hk
          have e2 : a = w := by simpa using hw
          subst e1; subst e2
          exact h.2.2.1.2 g t' a h1 hs.1
        | succ k => exact h2.2 k r w (by simpa using hk) (by simpa using hw)
theorem kchL_ok (h : kst D cA tt Ty env ren S H lv st) (hs : kSg env sg zs) (hr : kSr ren sr as) : ∀ {l : List (Nat × kV)}, kchL S sg sr l = true → ∃ lv', kLoc zs as l lv' ∧ ∀ q ∈ lv', q ∈ lv
  | [], _ => ⟨[], trivial, fun _ hq => by cases hq⟩
  | q :: t, hc => by
    unfold kchL at hc
    cases h1 : klocv S.2.2.1 q.1 with
    | none => rw [h1] at hc; cases hc
    | some w =>
      simp only [h1] at hc
      cases h2 : kchV S sg sr q.2 w with
      | false => rw [h2] at hc; cases hc
      | true =>
        rw [h2] at hc
        obtain ⟨lv', h3, h4⟩ := kchL_ok h hs hr hc
        obtain ⟨x, h5, h6⟩ := kLoc_mem h.2.2.2.1 (klocv_mem h1)
        refine ⟨(q.1, x) :: lv', ⟨rfl, kchV_ok h hs hr h6 h2, h3⟩, fun p hp => ?_⟩
        rcases List.mem_cons.mp hp with rfl | hp
        · exact h5
        · exact h4 p hp
theorem kchS_ok (h : kst D cA tt Ty env ren S H lv st) (hs : kSg env sg zs) (hr : kSr ren sr as) : ∀ {l u : List kV} {st' : List Value}, kStk env ren u st' → kchS S sg sr l u = true → kStk zs as l st'
  | [], [], [], _, _ => trivial
  | [], [], _ :: _, hk, _ => hk.elim
  | [], _ :: _, _, _, hc => by simp [kchS] at hc
  | _ :: _, [], _, _, hc => by simp [kchS] at hc
  | _ :: _, _ :: _, [], hk, _ => hk.elim
  | v :: l, w :: u, x :: st', hk, hc => by
    unfold kchS at hc
    cases h2 : kchV S sg sr v w with
    | false => rw [h2] at hc; cases hc
    | true =>
      rw [h2] at hc
      exact ⟨kchV_ok h hs hr hk.1 h2, kchS_ok h hs hr hk.2 hc⟩
theorem kchF_G {q : kF} {r : Nat} {w : kV} (h : kst D cA tt Ty env ren S H lv st) (hs : kSg env sg zs) (hr : kSr ren sr as) (h1 : sr[q.1]? = some r) (hw : kfokG D cA tt Ty env ren H (r, kcst 5000, w)) (hv : kchV S sg sr q.2.2 w = true) : kfokG D cA tt Ty zs as H q := by
  obtain ⟨a, b, T, Tt, V, Vt, f, f1, f2, f3, f4, f5, f6, f7, f8, f9, f10⟩ := hw
  obtain ⟨a', g1, g2⟩ := kSr_at hr h1
  have ea : a' = a := Option.some.inj (g2.symm.trans f1)
  subst ea
  have f9 : w = .inl f := f9
  subst f9
  unfold kchV at hv
  match hq : q.2.2 with
  | .inl g =>
    rw [hq] at hv
    cases h3 : ksubst sg g with
    | none => simp [ksubV, h3] at hv
    | some g' =>
      simp only [ksubV, h3] at hv
      obtain ⟨z, e1, e2⟩ := ksubst_ok hs h3
      have hv : kfeq S g' f = true := hv
      have e3 := kfeq_ok h e2 f10 hv
      exact ⟨a', b, T, Tt, V, Vt, g, g1, f2, f3, f4, f5, f6, f7, f8, hq, by rw [e1, e3]⟩
  | .inr (.inl g) =>
    rw [hq] at hv
    cases h3 : ksubst sg g with
    | none => simp [ksubV, h3] at hv
    | some g' => simp only [ksubV, h3] at hv; cases hv
  | .inr (.inr (.inl g)) =>
    rw [hq] at hv
    cases h3 : sr[g]? with
    | none => simp [ksubV, h3] at hv
    | some g' => simp only [ksubV, h3] at hv; cases hv
  | .inr (.inr (.inr g)) =>
    rw [hq] at hv
    simp [ksubV] at hv
theorem kchF_ok (hTy : kTyp tt Ty) (h : kst D cA tt Ty env ren S H lv st) (hs : kSg env sg zs) (hr : kSr ren sr as) : ∀ {l : List kF}, kchF S sg sr l = true → ∀ q ∈ l, kfok D cA tt Ty zs as H q
  | [], _, q, hq => by cases hq
  | q :: t, hc, p, hp => by
    unfold kchF at hc
    cases h1 : sr[q.1]? with
    | none => rw [h1] at hc; simp at hc
    | some r =>
      cases h2 : ksubst sg q.2.1 with
      | none => rw [h1, h2] at hc; simp at hc
      | some x =>
        simp only [h1, h2] at hc
        cases h3 : kfindT S.2.2.2.2.1 q.2.1 r x with
        | none => rw [h3] at hc; cases hc
        | some w =>
          simp only [h3] at hc
          cases h4 : kchV S sg sr q.2.2 w with
          | false => rw [h4] at hc; cases hc
          | true =>
            rw [h4] at hc
            rcases List.mem_cons.mp hp with rfl | hp
            · cases hgx : kghx p.2.1 with
              | true =>
                simp only [kfindT, hgx] at h3
                have ex := ksubst_gh h2 hgx
                subst ex
                have hf := h.2.2.2.2.2 _ (kfind0_mem h3)
                unfold kfok at hf ⊢
                rw [hgx]
                exact kchF_G h hs hr h1 hf h4
              | false =>
              simp only [kfindT, hgx] at h3
              obtain ⟨a, t', T, V, z, f1, f2, f3, f4, f5, f6, f7⟩ := kfind_ok h h3
              obtain ⟨a', g1, g2⟩ := kSr_at hr h1
              have ea : a' = a := Option.some.inj (g2.symm.trans f1)
              subst ea
              obtain ⟨z', g3, g4⟩ := ksubst_ok hs h2
              have ez : z' = (z : Int) := Option.some.inj (g4.symm.trans f5)
              subst ez
              exact kfok_mk hTy ⟨a', t', T, V, z, g1, f2, f3, f4, g3, f6, kchV_ok h hs hr f7 h4⟩
            · exact kchF_ok hTy h hs hr hc p hp
theorem kchC_ok (h : kst D cA tt Ty env ren S H lv st) (hs : kSg env sg zs) : ∀ {l : List kL}, kchC S sg l = true → kC zs l
  | [], _, q, hq => by cases hq
  | f :: t, hc, p, hp => by
    unfold kchC at hc
    cases h1 : ksubst sg f with
    | none => rw [h1] at hc; cases hc
    | some g =>
      simp only [h1] at hc
      cases h2 : kgeS S g with
      | false => rw [h2] at hc; cases hc
      | true =>
        rw [h2] at hc
        rcases List.mem_cons.mp hp with rfl | hp
        · obtain ⟨z, e1, e2⟩ := ksubst_ok hs h1
          exact ⟨z, e1, kgeS_ok h e2 h2⟩
        · exact kchC_ok h hs hc p hp
theorem kch_ok {T : kS} (hTy : kTyp tt Ty) (h : kst D cA tt Ty env ren S H lv st) (hs : kSg env sg zs) (hr : kSr ren sr as) (hc : kch S sg sr T = true) : ∃ lv', kst D cA tt Ty zs as T H lv' st ∧ ∀ q ∈ lv', q ∈ lv := by
  unfold kch at hc
  cases h1 : kchI S T.1 sg with
  | false => rw [h1] at hc; cases hc
  | true =>
    simp only [h1] at hc
    cases h2 : kchR S T.2.1 sr with
    | false => rw [h2] at hc; cases hc
    | true =>
      simp only [h2] at hc
      cases h3 : kchL S sg sr T.2.2.1 with
      | false => rw [h3] at hc; cases hc
      | true =>
        simp only [h3] at hc
        cases h4 : kchS S sg sr T.2.2.2.1 S.2.2.2.1 with
        | false => rw [h4] at hc; cases hc
        | true =>
          simp only [h4] at hc
          cases h5 : kchF S sg sr T.2.2.2.2.1 with
          | false => rw [h5] at hc; cases hc
          | true =>
            simp only [h5] at hc
            obtain ⟨lv', g1, g2⟩ := kchL_ok h hs hr h3
            exact ⟨lv', ⟨kchI_ok h hs h1, kchC_ok h hs hc, kchR_ok h hr h2, g1, kchS_ok h hs hr h.2.2.2.2.1 h4, kchF_ok hTy h hs hr h5⟩, g2⟩
theorem kplaceG_ok {lo r : Nat} {S' : kS} {v : kV} (hTy : kTyp tt Ty) (hG : kgood D cA tt Ty lo H) (h : kst D cA tt Ty env ren S H lv st) (hp : kplaceG tt S r = some (S', v)) : ∃ e u x, kst D cA tt Ty (env ++ e) (ren ++ u) S' H lv st ∧ kvok (env ++ e) (ren ++ u) v x := by
  have k : ∀ (V Vt : Nat → Value), (Int32.ofInt (kwhich V Vt)).toInt = kwhich V Vt := fun V Vt => by
    obtain ⟨b1, b2⟩ := kwhich_in V Vt
    exact Int32.toInt_ofInt_of_le (by omega) (by omega)
  unfold kplaceG at hp
  cases h1 : kfind0 S.2.2.2.2.1 r (kcst 5000) with
  | some w =>
    simp only [h1] at hp
    cases hp
    have hf := h.2.2.2.2.2 _ (kfind0_mem h1)
    unfold kfok at hf
    rw [show kghx (kcst 5000) = true from rfl] at hf
    obtain ⟨a, b, T, Tt, V, Vt, f, f1, f2, f3, f4, f5, f6, f7, f8, f9, f10⟩ := hf
    have f9 : v = .inl f := f9
    subst f9
    exact ⟨[], [], .int (Int32.ofInt (kwhich V Vt)), by rw [List.append_nil, List.append_nil]; exact h, kvok_ext ⟨_, rfl, by rw [k]; exact f10⟩⟩
  | none =>
    simp only [h1] at hp
    cases h2 : S.2.1[r]? with
    | none => simp [h2] at hp
    | some t =>
      simp only [h2] at hp
      cases h3 : Nat.beq t 36 with
      | false => simp [h3] at hp
      | true =>
        simp only [h3] at hp
        have et := Nat.beq_eq.mp h3
        subst et
        cases h4 : tt[36]? with
        | none => simp [h4] at hp
        | some T =>
          cases h5 : tt[40]? with
          | none => simp [h4, h5] at hp
          | some Tt =>
            simp only [h4, h5] at hp
            split at hp
            · rename_i t' h6
              cases h7 : Nat.beq t' 40 with
              | false => simp [h7] at hp
              | true =>
                simp only [h7] at hp
                cases hp
                have et := Nat.beq_eq.mp h7
                subst et
                obtain ⟨a, ha, ht⟩ := kRt_at h.2.2.1 h2
                obtain ⟨hlo, V, hc, hv⟩ := hG.1 a 36 T ht h4
                obtain ⟨b, hb, htb⟩ : kpok Ty (.inr (.inr 40)) (V 4) := kspR_ok (T := T) h (z := 4) kcst_ev hv.1 h6
                obtain ⟨-, Vt, hct, -⟩ := hG.1 b 40 Tt htb h5
                obtain ⟨b1, b2⟩ := kwhich_in V Vt
                obtain ⟨g1, g2⟩ := kpush_ok (q := (0, 4)) h b1 b2
                refine ⟨[kwhich V Vt], [], .int (Int32.ofInt (kwhich V Vt)), kfadd_ok g1 ?_, ⟨_, rfl, by rw [k]; exact g2⟩⟩
                unfold kfok
                rw [show kghx (kcst 5000) = true from rfl]
                exact ⟨a, b, T, Tt, V, Vt, _, kget_ext ha, ht, h4, hc, hb, htb, h5, hct, rfl, g2⟩
            · cases hp
theorem kplace_ok {lo : Nat} {b : kB} {S' : kS} {v : kV} (hTy : kTyp tt Ty) (hG : kgood D cA tt Ty lo H) (h : kst D cA tt Ty env ren S H lv st) (hs : kSg env sg zs) (hr : kSr ren sr as) (hp : kplace tt S sg sr b = some (S', v)) : ∃ e u x, kst D cA tt Ty (env ++ e) (ren ++ u) S' H lv st ∧ kvok (env ++ e) (ren ++ u) v x := by
  unfold kplace at hp
  split at hp
  · cases h1 : klocv S.2.2.1 b.2.1 with
    | none => rw [h1] at hp; cases hp
    | some w =>
      simp only [h1] at hp
      cases hp
      obtain ⟨x, -, h2⟩ := kLoc_mem h.2.2.2.1 (klocv_mem h1)
      exact ⟨[], [], x, by rw [List.append_nil, List.append_nil]; exact h, kvok_ext h2⟩
  · cases h1 : S.2.2.2.1[b.2.1]? with
    | none => rw [h1] at hp; cases hp
    | some w =>
      simp only [h1] at hp
      cases hp
      obtain ⟨x, -, h2⟩ := kStk_at h.2.2.2.2.1 h1
      exact ⟨[], [], x, by rw [List.append_nil, List.append_nil]; exact h, kvok_ext h2⟩
  · split at hp
    · split at hp
      · exact kplaceG_ok hTy hG h hp
      · cases hp
    cases h1 : sr[b.2.1]? with
    | none => rw [h1] at hp; simp at hp
    | some r =>
      cases h2 : ksubst sg b.2.2.1 with
      | none => rw [h1, h2] at hp; simp at hp
      | some x =>
        simp only [h1, h2] at hp
        split at hp
        · rename_i q hq
          cases hp
          obtain ⟨z, -, g2⟩ := ksubst_ok hs h2
          obtain ⟨a, t, T, V, z', -, -, -, -, -, -, -, -, -, alt, ha, e, u, g3, g4⟩ := kload_ok hTy hG h g2 hq
          have e1 : alt = (S', v) := by simpa using ha
          subst e1
          exact ⟨e, u, _, g3, g4⟩
        · cases hp
theorem kbind1_ok {lo : Nat} {b : kB} {q : kS × List kL × List Nat} (hTy : kTyp tt Ty) (hG : kgood D cA tt Ty lo H) (h : kst D cA tt Ty env ren S H lv st) (hs : kSg env sg zs) (hr : kSr ren sr as) (hp : kbind1 tt S sg sr b = some q) : ∃ e u zs' as', kst D cA tt Ty (env ++ e) (ren ++ u) q.1 H lv st ∧ kSg (env ++ e) q.2.1 (zs ++ zs') ∧ kSr (ren ++ u) q.2.2 (as ++ as') := by
  unfold kbind1 at hp
  split at hp
  · rename_i S' f hq
    obtain ⟨e, u, x, g1, n, -, g2⟩ := kplace_ok hTy hG h hs hr hq
    split at hp
    · rename_i g hg
      cases hp
      obtain ⟨w, g3, -⟩ := kdv_ok hg (kofs_ev g2)
      exact ⟨e, u, [w], [], g1, kSg_push g3 (kSg_ext hs), by rw [List.append_nil]; exact kSr_ext hr⟩
    · cases hp
  · rename_i S' f hq
    obtain ⟨e, u, x, g1, n, -, g2⟩ := kplace_ok hTy hG h hs hr hq
    split at hp
    · rename_i g hg
      cases hp
      obtain ⟨w, g3, -⟩ := kdv_ok hg (kofs_ev g2)
      exact ⟨e, u, [w], [], g1, kSg_push g3 (kSg_ext hs), by rw [List.append_nil]; exact kSr_ext hr⟩
    · cases hp
  · rename_i S' r hq
    obtain ⟨e, u, x, g1, a, -, g2⟩ := kplace_ok hTy hG h hs hr hq
    cases hp
    exact ⟨e, u, [], [a], g1, by rw [List.append_nil]; exact kSg_ext hs, kSr_push g2 (kSr_ext hr)⟩
  · cases hp
end KEOK
theorem kbind_ok {D : va_G} {cA : Nat → ClassId} {tt : List kT} {Ty : Nat → Nat → Prop} {lo : Nat} {H : Heap} {lv : List (Nat × Value)} {st : List Value} (hTy : kTyp tt Ty) (hG : kgood D cA tt Ty lo H) : ∀ {bs : List kB} {env zs : List Int} {ren as : List Nat} {S : kS} {sg : List kL} {sr : List Nat} {q : kS × List kL × List Nat}, kst D cA tt Ty env ren S H lv st → kSg env sg zs → kSr ren sr as → kbind tt bs S sg sr = some q → ∃ e u zs' as', kst D cA tt Ty (env ++ e) (ren ++ u) q.1 H lv st ∧ kSg (env ++ e) q.2.1 (zs ++ zs') ∧ kSr (ren ++ u) q.2.2 (as ++ as')
  | [], env, zs, ren, as, S, sg, sr, q, h, hs, hr, hp => by
    cases hp
    exact ⟨[], [], [], [], by rw [List.append_nil, List.append_nil]; exact h, by rw [List.append_nil, List.append_nil]; exact hs, by rw [List.append_nil, List.append_nil]; exact hr⟩
  | b :: bs, env, zs, ren, as, S, sg, sr, q, h, hs, hr, hp => by
    unfold kbind at hp
    cases h1 : kbind1 tt S sg sr b with
    | none => rw [h1] at hp; cases hp
    | some q1 =>
      simp only [h1] at hp
      obtain ⟨e, u, zs', as', g1, g2, g3⟩ := kbind1_ok hTy hG h hs hr h1
      obtain ⟨e2, u2, zs2, as2, g4, g5, g6⟩ := kbind_ok hTy hG g1 g2 g3 hp
      exact ⟨e ++ e2, u ++ u2, zs' ++ zs2, as' ++ as2, by rw [← List.append_assoc, ← List.append_assoc]; exact g4, by rw [← List.append_assoc, ← List.append_assoc]; exact g5, by rw [← List.append_assoc, ← List.append_assoc]; exact g6⟩
