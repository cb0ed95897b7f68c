/-! BY HAND: rows copied one by one: the world, its images, the fresh one -/
section HCP0
variable {D : va_G} {cA : Nat → Nat} {Ty : Nat → Nat → Prop} {tt : List kT} {env : List Int} {ren : List Nat} {S : kS} {H H1 : Heap} {lv : List (Nat × Value)} {st : List Value}
theorem fact_int {r c a t : Nat} {f : kL} {T : kT} {V : Nat → Value} (hTy : kTyp tt Ty) (h : kst D cA tt Ty env ren S H lv st) (hq : (r, kcst (c : Int), .inl f) ∈ S.2.2.2.2.1) (hr : ren[r]? = some a) (ha : Ty a t) (hT : tt[t]? = some T) (hc : kcell D cA T a H V) (hne : c < 5000) : ∃ n : Int32, V c = .int n ∧ kev env f = some n.toInt := by
  have hg : kghx (kcst (c : Int)) = false := by
    cases hx : kghx (kcst (c : Int)) with
    | false => rfl
    | true =>
      have := kghx_ev (env := env) hx kcst_ev
      omega
  obtain ⟨a', t', T', V', z, f1, f2, f3, f4, f5, f6, n, f7, f8⟩ := kfok_N (h.2.2.2.2.2 _ hq) hg
  have ea : a' = a := Option.some.inj (f1.symm.trans hr)
  subst ea
  have et := kTyp_eq hTy f2 ha f3 hT
  subst et
  cases Option.some.inj (f3.symm.trans hT)
  have ez : (c : Int) = (z : Int) := Option.some.inj (kcst_ev.symm.trans f5)
  have ez : z = c := by omega
  subst ez
  exact ⟨n, (kcell_uniq hc f4 f6).trans f7, f8⟩
theorem fact_mk {r c a t : Nat} {f : kL} {T : kT} {V : Nat → Value} {n : Int32} (hTy : kTyp tt Ty) (hr : ren[r]? = some a) (ha : Ty a t) (hT : tt[t]? = some T) (hc : kcell D cA T a H V) (hj : c < T.2.1) (hv : V c = .int n) (hf : kev env f = some n.toInt) : kfok D cA tt Ty env ren H (r, kcst (c : Int), .inl f) :=
  kfok_mk hTy ⟨a, t, T, V, c, hr, ha, hT, hc, kcst_ev, hj, ⟨n, hv, hf⟩⟩
theorem fact_ref {r c a t k b : Nat} {T : kT} {V : Nat → Value} (hTy : kTyp tt Ty) (hr : ren[r]? = some a) (ha : Ty a t) (hT : tt[t]? = some T) (hc : kcell D cA T a H V) (hj : c < T.2.1) (hv : V c = .ref b) (hk : ren[k]? = some b) : kfok D cA tt Ty env ren H (r, kcst (c : Int), .inr (.inr (.inl k))) :=
  kfok_mk hTy ⟨a, t, T, V, c, hr, ha, hT, hc, kcst_ev, hj, ⟨b, hv, hk⟩⟩
theorem ref_at {r c a t k : Nat} {T : kT} {V : Nat → Value} (hTy : kTyp tt Ty) (h : kst D cA tt Ty env ren S H lv st) (hq : (r, kcst (c : Int), .inr (.inr (.inl k))) ∈ S.2.2.2.2.1) (hr : ren[r]? = some a) (ha : Ty a t) (hT : tt[t]? = some T) (hc : kcell D cA T a H V) (hne : c < 5000) : ∃ b, V c = .ref b ∧ ren[k]? = some b := by
  have hg : kghx (kcst (c : Int)) = false := by
    cases hx : kghx (kcst (c : Int)) with
    | false => rfl
    | true =>
      have := kghx_ev (env := env) hx kcst_ev
      omega
  obtain ⟨a', t', T', V', z, f1, f2, f3, f4, f5, f6, b, f7, f8⟩ := kfok_N (h.2.2.2.2.2 _ hq) hg
  have ea : a' = a := Option.some.inj (f1.symm.trans hr)
  subst ea
  have et := kTyp_eq hTy f2 ha f3 hT
  subst et
  cases Option.some.inj (f3.symm.trans hT)
  have ez : (c : Int) = (z : Int) := Option.some.inj (kcst_ev.symm.trans f5)
  have ez : z = c := by omega
  subst ez
  exact ⟨b, (kcell_uniq hc f4 f6).trans f7, f8⟩
/-- k numbers of Vs, from so on, laid into Vd from off on -/
def cpv (Vs Vd : Nat → Value) (so off k : Nat) (j : Nat) : Value := if off ≤ j ∧ j < off + k then Vs (so + (j - off)) else Vd j
theorem cpv_zero {Vs Vd : Nat → Value} {so off : Nat} : cpv Vs Vd so off 0 = Vd := by
  funext j
  unfold cpv
  rw [if_neg (by omega)]
theorem cpv_succ {Vs Vd : Nat → Value} {so off k : Nat} : updV (cpv Vs Vd so off k) (off + k) (Vs (so + k)) = cpv Vs Vd so off (k + 1) := by
  funext j
  unfold updV cpv
  by_cases h : j = off + k
  · subst h
    rw [if_pos rfl, if_pos (by omega)]
    congr 1
    omega
  · rw [if_neg h]
    by_cases h2 : off ≤ j ∧ j < off + k
    · rw [if_pos h2, if_pos (by omega)]
    · rw [if_neg h2, if_neg (by omega)]
theorem cpv_in {Vs Vd : Nat → Value} {so off k j : Nat} (h : j < k) : cpv Vs Vd so off k (off + j) = Vs (so + j) := by
  unfold cpv
  rw [if_pos (by omega)]
  congr 1
  omega
theorem cpv_out {Vs Vd : Nat → Value} {so off k j : Nat} (h : j < off ∨ off + k ≤ j) : cpv Vs Vd so off k j = Vd j := by
  unfold cpv
  rw [if_neg (by omega)]
end HCP0
section HCP1
variable {Ty : Nat → Nat → Prop}
def kt_any : kP := .inl [(-2147483648, 2147483647)]
def kt_37R : List kRun := [(0, 1, 1, .inl [(0, 5)]), (1, 1, 1, .inl [(0, 4)]), (2, 1, 1, .inl [(0, 60)]), (4, 1, 1, .inl [(0, 10)]), (5, 1, 1, .inl [(0, 8)]), (6, 1, 1, .inl [(0, 4)]), (7, 1, 1, .inl [(0, 3)]), (8, 1, 1, .inl [(0, 9)]), (9, 1, 1, .inl [(0, 40)]), (57, 1, 18, .inl [(0, 7)]), (75, 1, 40, .inl [(0, 719), (1000, 1712)])]
def kt_37 : kT := (100, 115, kt_37R ++ [(0, 1, 115, kt_any)], [(14, 4, 5, 8, .inl [(4, 30)])])
def kt_38 : kT := (100, 345, (List.range 3).flatMap (fun K => kt_37R.map (fun r => (r.1 + 115 * K, r.2))) ++ [(0, 1, 345, kt_any)], (List.range 3).map (fun K => (14 + 115 * K, 4, 5 + 115 * K, 8, .inl [(4, 30)])))
def kt_42R : List kRun := [(0, 1, 1, .inl [(0, 5)]), (1, 1, 1, .inl [(0, 4)]), (2, 1, 1, .inl [(0, 60)]), (4, 1, 1, .inl [(0, 10)]), (5, 1, 1, .inl [(0, 8)]), (6, 1, 1, .inl [(0, 4)]), (7, 1, 1, .inl [(0, 3)]), (8, 1, 1, .inl [(0, 9)]), (9, 1, 1, .inl [(0, 0)]), (57, 1, 18, .inl [(0, 7)]), (75, 1, 40, .inl [(0, 0)])]
def kt_42 : kT := (100, 115, kt_42R ++ [(0, 1, 115, kt_any)], [])
theorem kt37 : k_tt[37]? = some kt_37 := rfl
theorem kt38 : k_tt[38]? = some kt_38 := rfl
theorem kt42 : k_tt[42]? = some kt_42 := rfl
theorem r37_in : ∀ r ∈ kt_37R ++ [(0, 1, 115, kt_any)], r.1 + r.2.1 * (r.2.2.1 - 1) < 115 ∧ 0 < r.2.2.1 := by decide
theorem r37_ix {r : kRun} {P : Nat} (hr : r ∈ kt_37R ++ [(0, 1, 115, kt_any)]) (hP : P < r.2.2.1) : r.1 + r.2.1 * P < 115 := by
  obtain ⟨h1, h2⟩ := r37_in r hr
  have : r.2.1 * P ≤ r.2.1 * (r.2.2.1 - 1) := Nat.mul_le_mul_left _ (by omega)
  omega
theorem v37_congr {V V' : Nat → Value} (h : kvals Ty kt_37 V) (he : ∀ j, j < 115 → V' j = V j) : kvals Ty kt_37 V' := by
  refine ⟨fun r hr P hP => ?_, fun r hr n P hn hP hPn => ?_⟩
  · rw [he _ (r37_ix hr hP)]
    exact h.1 r hr P hP
  · have er : r = (14, 4, 5, 8, .inl [(4, 30)]) := by simpa [kt_37] using hr
    subst er
    have hP : P < 8 := hP
    rw [he _ (by show 14 + 4 * P < 115; omega)]
    exact h.2 _ hr n P (by rw [← he 5 (by decide)]; exact hn) hP hPn
theorem v38_to {V : Nat → Value} (h : kvals Ty kt_38 V) {K : Nat} (hK : K < 3) : kvals Ty kt_37 (fun j => V (115 * K + j)) := by
  refine ⟨fun r hr P hP => ?_, fun r hr n P hn hP hPn => ?_⟩
  · rcases List.mem_append.mp hr with hr | hr
    · have := h.1 (r.1 + 115 * K, r.2) (List.mem_append_left _ (List.mem_flatMap.mpr ⟨K, List.mem_range.mpr hK, List.mem_map.mpr ⟨r, hr, rfl⟩⟩)) P hP
      have this : kpok Ty r.2.2.2 (V (r.1 + 115 * K + r.2.1 * P)) := this
      show kpok Ty r.2.2.2 (V (115 * K + (r.1 + r.2.1 * P)))
      rw [show 115 * K + (r.1 + r.2.1 * P) = r.1 + 115 * K + r.2.1 * P by omega]
      exact this
    · have er : r = (0, 1, 115, kt_any) := by simpa using hr
      subst er
      have hP : P < 115 := hP
      have := h.1 (0, 1, 345, kt_any) (List.mem_append_right _ List.mem_cons_self) (115 * K + P) (show 115 * K + P < 345 by omega)
      have this : kpok Ty kt_any (V (0 + 1 * (115 * K + P))) := this
      show kpok Ty kt_any (V (115 * K + (0 + 1 * P)))
      rw [show 115 * K + (0 + 1 * P) = 0 + 1 * (115 * K + P) by omega]
      exact this
  · have er : r = (14, 4, 5, 8, .inl [(4, 30)]) := by simpa [kt_37] using hr
    subst er
    have hn : V (115 * K + 5) = .int n := hn
    have := h.2 (14 + 115 * K, 4, 5 + 115 * K, 8, .inl [(4, 30)]) (List.mem_map.mpr ⟨K, List.mem_range.mpr hK, rfl⟩) n P (by show V (5 + 115 * K) = _; rw [Nat.add_comm]; exact hn) hP hPn
    have this : kpok Ty (.inl [(4, 30)]) (V (14 + 115 * K + 4 * P)) := this
    show kpok Ty (.inl [(4, 30)]) (V (115 * K + (14 + 4 * P)))
    rw [show 115 * K + (14 + 4 * P) = 14 + 115 * K + 4 * P by omega]
    exact this
theorem v38_of {V : Nat → Value} (h : ∀ K, K < 3 → kvals Ty kt_37 (fun j => V (115 * K + j))) : kvals Ty kt_38 V := by
  refine ⟨fun r hr P hP => ?_, fun r hr n P hn hP hPn => ?_⟩
  · rcases List.mem_append.mp hr with hr | hr
    · obtain ⟨K, hK, hr⟩ := List.mem_flatMap.mp hr
      obtain ⟨r0, hr0, rfl⟩ := List.mem_map.mp hr
      have := (h K (List.mem_range.mp hK)).1 r0 (List.mem_append_left _ hr0) P hP
      have this : kpok Ty r0.2.2.2 (V (115 * K + (r0.1 + r0.2.1 * P))) := this
      show kpok Ty r0.2.2.2 (V (r0.1 + 115 * K + r0.2.1 * P))
      rw [show r0.1 + 115 * K + r0.2.1 * P = 115 * K + (r0.1 + r0.2.1 * P) by omega]
      exact this
    · have er : r = (0, 1, 345, kt_any) := by simpa using hr
      subst er
      have hP : P < 345 := hP
      have := (h (P / 115) (by omega)).1 (0, 1, 115, kt_any) (List.mem_append_right _ List.mem_cons_self) (P % 115) (show P % 115 < 115 by omega)
      have this : kpok Ty kt_any (V (115 * (P / 115) + (0 + 1 * (P % 115)))) := this
      show kpok Ty kt_any (V (0 + 1 * P))
      rw [show 0 + 1 * P = 115 * (P / 115) + (0 + 1 * (P % 115)) by omega]
      exact this
  · obtain ⟨K, hK, rfl⟩ := List.mem_map.mp hr
    have hn : V (5 + 115 * K) = .int n := hn
    have := (h K (List.mem_range.mp hK)).2 (14, 4, 5, 8, .inl [(4, 30)]) List.mem_cons_self n P (by show V (115 * K + 5) = _; rw [Nat.add_comm]; exact hn) hP hPn
    have this : kpok Ty (.inl [(4, 30)]) (V (115 * K + (14 + 4 * P))) := this
    show kpok Ty (.inl [(4, 30)]) (V (14 + 115 * K + 4 * P))
    rw [show 14 + 115 * K + 4 * P = 115 * K + (14 + 4 * P) by omega]
    exact this
theorem kp_wide {q q' : kQ} {v : Value} (h : kpok Ty (.inl q) v) (hq : ∀ r ∈ q, ∃ r' ∈ q', r'.1 ≤ r.1 ∧ r.2 ≤ r'.2) : kpok Ty (.inl q') v := by
  obtain ⟨n, e, r, hr, h1, h2⟩ := h
  obtain ⟨r', hr', g1, g2⟩ := hq r hr
  exact ⟨n, e, r', hr', by omega, by omega⟩
theorem v37_of42 {V : Nat → Value} {n : Int32} (h : kvals Ty kt_42 V) (hn : V 5 = .int n) (hs : ∀ P : Nat, P < 8 → (P : Int) < n.toInt → kpok Ty (.inl [(4, 30)]) (V (14 + 4 * P))) : kvals Ty kt_37 V := by
  refine ⟨fun r hr P hP => ?_, fun r hr k P hk hP hPn => ?_⟩
  · have hw : ∀ r ∈ kt_37R ++ [(0, 1, 115, kt_any)], ∃ r' ∈ kt_42R ++ [(0, 1, 115, kt_any)], r'.1 = r.1 ∧ r'.2.1 = r.2.1 ∧ r'.2.2.1 = r.2.2.1 ∧ ∃ q q', r'.2.2.2 = .inl q ∧ r.2.2.2 = .inl q' ∧ ∀ x ∈ q, ∃ x' ∈ q', x'.1 ≤ x.1 ∧ x.2 ≤ x'.2 := by
      exact List.forall_mem_cons.mpr ⟨⟨_, List.mem_of_getElem? (i := 0) rfl, rfl, rfl, rfl, _, _, rfl, rfl, by decide⟩, List.forall_mem_cons.mpr ⟨⟨_, List.mem_of_getElem? (i := 1) rfl, rfl, rfl, rfl, _, _, rfl, rfl, by decide⟩, List.forall_mem_cons.mpr ⟨⟨_, List.mem_of_getElem? (i := 2) rfl, rfl, rfl, rfl, _, _, rfl, rfl, by decide⟩, List.forall_mem_cons.mpr ⟨⟨_, List.mem_of_getElem? (i := 3) rfl, rfl, rfl, rfl, _, _, rfl, rfl, by decide⟩, List.forall_mem_cons.mpr ⟨⟨_, List.mem_of_getElem? (i := 4) rfl, rfl, rfl, rfl, _, _, rfl, rfl, by decide⟩, List.forall_mem_cons.mpr ⟨⟨_, List.mem_of_getElem? (i := 5) rfl, rfl, rfl, rfl, _, _, rfl, rfl, by decide⟩, List.forall_mem_cons.mpr ⟨⟨_, List.mem_of_getElem? (i := 6) rfl, rfl, rfl, rfl, _, _, rfl, rfl, by decide⟩, List.forall_mem_cons.mpr ⟨⟨_, List.mem_of_getElem? (i := 7) rfl, rfl, rfl, rfl, _, _, rfl, rfl, by decide⟩, List.forall_mem_cons.mpr ⟨⟨_, List.mem_of_getElem? (i := 8) rfl, rfl, rfl, rfl, _, _, rfl, rfl, by decide⟩, List.forall_mem_cons.mpr ⟨⟨_, List.mem_of_getElem? (i := 9) rfl, rfl, rfl, rfl, _, _, rfl, rfl, by decide⟩, List.forall_mem_cons.mpr ⟨⟨_, List.mem_of_getElem? (i := 10) rfl, rfl, rfl, rfl, _, _, rfl, rfl, by decide⟩, List.forall_mem_cons.mpr ⟨⟨_, List.mem_of_getElem? (i := 11) rfl, rfl, rfl, rfl, _, _, rfl, rfl, by decide⟩, fun _ h => absurd h List.not_mem_nil⟩⟩⟩⟩⟩⟩⟩⟩⟩⟩⟩⟩
    obtain ⟨r', hr', e1, e2, e3, q, q', e4, e5, hq⟩ := hw r hr
    have := h.1 r' hr' P (by rw [e3]; exact hP)
    rw [e1, e2, e4] at this
    rw [e5]
    exact kp_wide this hq
  · have er : r = (14, 4, 5, 8, .inl [(4, 30)]) := by simpa [kt_37] using hr
    subst er
    have hk : V 5 = .int k := hk
    have ek : n = k := by
      have : Value.int n = Value.int k := hn.symm.trans hk
      injection this
    subst ek
    exact hs P hP hPn
end HCP1
