/-! WRITE AND PASTE: the rows that they look at -/
def lFE : List kF := [(0, kcst 9, .inr (.inr (.inl 4))), (4, ksym 0, .inr (.inr (.inl 5))), (1, kcst 34, .inr (.inr (.inl 6))), (1, kcst 35, .inr (.inr (.inl 7)))]
def lsWE : kS := lsx lsW [] [32, 30, 51, 52] (lFE ++ [(5, kcst 0, .inl (kcst (-1))), (6, ksym 0, .inl (kcst (-1)))])
def lsWF : kS := lsx lsW [(0, 3), (0, 60)] [32, 30, 51, 52] (lFE ++ [(5, kcst 0, .inl (ksym 26)), (5, kcst 1, .inl (ksym 27)), (6, ksym 0, .inl (ksym 27)), (7, ksym 0, .inl (ksym 26))])
def lFP : List kF := [(0, kcst 9, .inr (.inr (.inl 4))), (4, ksym 0, .inr (.inr (.inl 5))), (4, ksym 2, .inr (.inr (.inl 6))), (1, kcst 34, .inr (.inr (.inl 7))), (1, kcst 35, .inr (.inr (.inl 8)))]
def lsPE : kS := lsx lsW [] [32, 30, 30, 51, 52] (lFP ++ [(5, kcst 0, .inl (kcst (-1))), (7, ksym 0, .inl (kcst (-1)))])
def lsPG : kS := lsx lsW [(0, 3), (0, 60)] [32, 30, 30, 51, 52] (lFP ++ [(5, kcst 0, .inl (ksym 26)), (5, kcst 1, .inl (ksym 27)), (7, ksym 0, .inl (ksym 27)), (8, ksym 0, .inl (ksym 26)), (6, kcst 0, .inl (kcst (-1))), (7, ksym 2, .inl (kcst (-1)))])
def lsPF (q1 q2 : Int × Int) : kS := lsx lsW [q1, (0, 60), q2, (0, 60)] [32, 30, 30, 51, 52] (lFP ++ [(5, kcst 0, .inl (ksym 26)), (5, kcst 1, .inl (ksym 27)), (7, ksym 0, .inl (ksym 27)), (8, ksym 0, .inl (ksym 26)), (6, kcst 0, .inl (ksym 28)), (6, kcst 1, .inl (ksym 29)), (7, ksym 2, .inl (ksym 29)), (8, ksym 2, .inl (ksym 28))])
def lsPQ : kS := lsx lsW [(0, 3), (0, 60), (0, 60)] [32, 30, 30, 51, 52] (lFP ++ [(5, kcst 0, .inl (ksym 26)), (5, kcst 1, .inl (ksym 27)), (7, ksym 0, .inl (ksym 27)), (8, ksym 0, .inl (ksym 26)), (6, kcst 0, .inl (ksym 26)), (6, kcst 1, .inl (ksym 28)), (7, ksym 2, .inl (ksym 28)), (8, ksym 2, .inl (ksym 26))])
section LWP
variable {D : va_G} {cA : Nat → ClassId} {aS : Nat → Nat} {n : Nat} {H : Heap} {xs : Nat → Int32} {I : Nat} {env : List Int} {ren : List Nat}
/-- a fact whose place is a form -/
theorem l_fcx {r j a t : Nat} {x : kL} {T : kT} {V : Nat → Value} {v : kV} {tt : List kT} {Ty : Nat → Nat → Prop} (hTy : kTyp tt Ty) (hr : ren[r]? = some a) (ht : Ty a t) (hT : tt[t]? = some T) (hc : kcell D cA T a H V) (hx : kev env x = some (j : Int)) (hj : j < T.2.1) (hv : kvok env ren v (V j)) : kfok D cA tt Ty env ren H (r, x, v) := kfok_mk hTy ⟨a, t, T, V, j, hr, ht, hT, hc, hx, hj, hv⟩
/-- the cells, and what is known of the row of slot K -/
theorem l_rowK {K : Nat} (hG : kgood D cA k_tt (sTy n k_tl aS) n H) (hr : lrw D cA n H) (hK : K < 4) : ∃ V Vm Vw : Nat → Value, kcell D cA lT30 (n + (53 + 2 * K)) H V ∧ kcell D cA lT51 (n + 124) H Vm ∧ kcell D cA lT52 (n + 125) H Vw ∧ lrel (V 0) (V 1) (Vm K) (Vw K) := by
  obtain ⟨-, V, c, -⟩ := hG.1 _ 30 _ (rt30 hK) lT30_at
  obtain ⟨-, Vm, cm, -⟩ := hG.1 _ 51 _ rt51 lT51_at
  obtain ⟨-, Vw, cw, -⟩ := hG.1 _ 52 _ rt52 lT52_at
  exact ⟨V, Vm, Vw, c, cm, cw, hr.2.2.2.2 K hK V Vm Vw c cm cw⟩
theorem lRt4 {K : Nat} (hK : K < 4) : kRt (sTy n k_tl aS) [n + 52, n + (53 + 2 * K), n + 124, n + 125] [32, 30, 51, 52] := ⟨rfl, fun k t a hk ha => by
  match k, hk, ha with
  | 0, hk, ha => cases hk; cases ha; exact rt32
  | 1, hk, ha => cases hk; cases ha; exact rt30 hK
  | 2, hk, ha => cases hk; cases ha; exact rt51
  | 3, hk, ha => cases hk; cases ha; exact rt52
  | k + 4, hk, ha => cases hk⟩
theorem lRt5 {K K' : Nat} (hK : K < 4) (hK' : K' < 4) : kRt (sTy n k_tl aS) [n + 52, n + (53 + 2 * K), n + (53 + 2 * K'), n + 124, n + 125] [32, 30, 30, 51, 52] := ⟨rfl, fun k t a hk ha => by
  match k, hk, ha with
  | 0, hk, ha => cases hk; cases ha; exact rt32
  | 1, hk, ha => cases hk; cases ha; exact rt30 hK
  | 2, hk, ha => cases hk; cases ha; exact rt30 hK'
  | 3, hk, ha => cases hk; cases ha; exact rt51
  | 4, hk, ha => cases hk; cases ha; exact rt52
  | k + 5, hk, ha => cases hk⟩
theorem p30 {j : Nat} (h : j < 3) : j < lT30.2.1 := by rw [lT30_n]; exact h
theorem p51 {j : Nat} (h : j < 4) : j < lT51.2.1 := by rw [lT51_n]; exact h
theorem p52 {j : Nat} (h : j < 4) : j < lT52.2.1 := by rw [lT52_n]; exact h
theorem lFE_ok {K : Nat} (hG : kgood D cA k_tt (sTy n k_tl aS) n H) (hr : lrw D cA n H) (hK : K < 4) (hx : kev env (ksym 0) = some (K : Int)) : ∀ q ∈ lFE, kfok D cA k_tt (sTy n k_tl aS) env [n, n + 109, n + 110, n + 111, n + 52, n + (53 + 2 * K), n + 124, n + 125] H q := by
  obtain ⟨-, V0, c0, -⟩ := hG.1 _ 0 _ rt0 lT0_at
  obtain ⟨-, V2, c2, -⟩ := hG.1 _ 32 _ rt32 lT32_at
  obtain ⟨-, V6, c6, -⟩ := hG.1 _ 36 _ rt36 lT36_at
  exact List.forall_mem_cons.mpr ⟨l_fct (j := 9) sTy_typ rfl rt0 lT0_at c0 (by rw [lT0_n]; decide) ⟨_, hr.1 V0 c0, rfl⟩, List.forall_mem_cons.mpr ⟨l_fcx sTy_typ rfl rt32 lT32_at c2 hx (by rw [lT32_n]; exact hK) ⟨_, hr.2.1 V2 c2 K hK, rfl⟩, List.forall_mem_cons.mpr ⟨l_fct (j := 34) sTy_typ rfl rt36 lT36_at c6 (by rw [lT36_n]; decide) ⟨_, (hr.2.2.1 V6 c6).1, rfl⟩, List.forall_mem_cons.mpr ⟨l_fct (j := 35) sTy_typ rfl rt36 lT36_at c6 (by rw [lT36_n]; decide) ⟨_, (hr.2.2.1 V6 c6).2, rfl⟩, fun _ h => absurd h List.not_mem_nil⟩⟩⟩⟩
theorem lFP_ok {K K' : Nat} (hG : kgood D cA k_tt (sTy n k_tl aS) n H) (hr : lrw D cA n H) (hK : K < 4) (hK' : K' < 4) (hx : kev env (ksym 0) = some (K : Int)) (hx' : kev env (ksym 2) = some (K' : Int)) : ∀ q ∈ lFP, kfok D cA k_tt (sTy n k_tl aS) env [n, n + 109, n + 110, n + 111, n + 52, n + (53 + 2 * K), n + (53 + 2 * K'), n + 124, n + 125] H q := by
  obtain ⟨-, V0, c0, -⟩ := hG.1 _ 0 _ rt0 lT0_at
  obtain ⟨-, V2, c2, -⟩ := hG.1 _ 32 _ rt32 lT32_at
  obtain ⟨-, V6, c6, -⟩ := hG.1 _ 36 _ rt36 lT36_at
  exact List.forall_mem_cons.mpr ⟨l_fct (j := 9) sTy_typ rfl rt0 lT0_at c0 (by rw [lT0_n]; decide) ⟨_, hr.1 V0 c0, rfl⟩, List.forall_mem_cons.mpr ⟨l_fcx sTy_typ rfl rt32 lT32_at c2 hx (by rw [lT32_n]; exact hK) ⟨_, hr.2.1 V2 c2 K hK, rfl⟩, List.forall_mem_cons.mpr ⟨l_fcx sTy_typ rfl rt32 lT32_at c2 hx' (by rw [lT32_n]; exact hK') ⟨_, hr.2.1 V2 c2 K' hK', rfl⟩, List.forall_mem_cons.mpr ⟨l_fct (j := 34) sTy_typ rfl rt36 lT36_at c6 (by rw [lT36_n]; decide) ⟨_, (hr.2.2.1 V6 c6).1, rfl⟩, List.forall_mem_cons.mpr ⟨l_fct (j := 35) sTy_typ rfl rt36 lT36_at c6 (by rw [lT36_n]; decide) ⟨_, (hr.2.2.1 V6 c6).2, rfl⟩, fun _ h => absurd h List.not_mem_nil⟩⟩⟩⟩⟩
/-- a slot's row on both sides, by forms -/
theorem l_rF {K r rm rv : Nat} {x fw fk : kL} {V Vm Vw : Nat → Value} {a k : Int32} (hK : K < 4) (c : kcell D cA lT30 (n + (53 + 2 * K)) H V) (cm : kcell D cA lT51 (n + 124) H Vm) (cw : kcell D cA lT52 (n + 125) H Vw) (e0 : V 0 = .int a) (e1 : V 1 = .int k) (em : Vm K = .int k) (ew : Vw K = .int a) (hr : ren[r]? = some (n + (53 + 2 * K))) (hm : ren[rm]? = some (n + 124)) (hw : ren[rv]? = some (n + 125)) (hx : kev env x = some (K : Int)) (yw : kev env fw = some a.toInt) (yk : kev env fk = some k.toInt) : kfok D cA k_tt (sTy n k_tl aS) env ren H (r, kcst 0, .inl fw) ∧ kfok D cA k_tt (sTy n k_tl aS) env ren H (r, kcst 1, .inl fk) ∧ kfok D cA k_tt (sTy n k_tl aS) env ren H (rm, x, .inl fk) ∧ kfok D cA k_tt (sTy n k_tl aS) env ren H (rv, x, .inl fw) :=
  ⟨l_fct (j := 0) sTy_typ hr (rt30 hK) lT30_at c (p30 (by decide)) ⟨a, e0, yw⟩, l_fct (j := 1) sTy_typ hr (rt30 hK) lT30_at c (p30 (by decide)) ⟨k, e1, yk⟩, l_fcx sTy_typ hm rt51 lT51_at cm hx (p51 hK) ⟨k, em, yk⟩, l_fcx sTy_typ hw rt52 lT52_at cw hx (p52 hK) ⟨a, ew, yw⟩⟩
theorem l_rE {K r rm : Nat} {x : kL} {V Vm : Nat → Value} (hK : K < 4) (c : kcell D cA lT30 (n + (53 + 2 * K)) H V) (cm : kcell D cA lT51 (n + 124) H Vm) (e0 : V 0 = .int (-1)) (em : Vm K = .int (-1)) (hr : ren[r]? = some (n + (53 + 2 * K))) (hm : ren[rm]? = some (n + 124)) (hx : kev env x = some (K : Int)) : kfok D cA k_tt (sTy n k_tl aS) env ren H (r, kcst 0, .inl (kcst (-1))) ∧ kfok D cA k_tt (sTy n k_tl aS) env ren H (rm, x, .inl (kcst (-1))) :=
  ⟨l_fct (j := 0) sTy_typ hr (rt30 hK) lT30_at c (p30 (by decide)) ⟨-1, e0, kcst_ev⟩, l_fcx sTy_typ hm rt51 lT51_at cm hx (p51 hK) ⟨-1, em, kcst_ev⟩⟩
set_option maxHeartbeats 4000000 in
theorem l_stWr {K : Nat} (hG : kgood D cA k_tt (sTy n k_tl aS) n H) (hm : lmd D cA k_tt (n + 109) (n + 110) (n + 111) H) (hr : lrw D cA n H) (hK : K < 4) (hz : (xs (I + 1)).toInt = (K : Int)) : ∃ ev, (kst D cA k_tt (sTy n k_tl aS) (lenv xs I ++ ev) [n, n + 109, n + 110, n + 111, n + 52, n + (53 + 2 * K), n + 124, n + 125] (lsk lsWE []) H [] [] ∨ kst D cA k_tt (sTy n k_tl aS) (lenv xs I ++ ev) [n, n + 109, n + 110, n + 111, n + 52, n + (53 + 2 * K), n + 124, n + 125] (lsk lsWF []) H [] []) ∧ ∀ s0 ∈ stW, okE (lenv xs I ++ ev) s0 := by
  obtain ⟨ev, z1, z2⟩ := l_stW (xs := xs) (I := I) (a := n) sTy_typ hG hm lT36_at rt0 rt36 (Or.inl ⟨110, rfl, rfl⟩) (Or.inl ⟨111, rfl, rfl⟩)
  have hl : (lenv xs I ++ ev).length = 26 := z1.1.1
  have x0 : ∀ E : List Int, kev (lenv xs I ++ ev ++ E) (ksym 0) = some (K : Int) := fun E => ksym_ev (by rw [← hz]; rfl)
  obtain ⟨V, Vm, Vw, c, cm, cw, hrel⟩ := l_rowK hG hr hK
  rcases hrel with ⟨e0, em⟩ | ⟨a, k, e0, e1, em, ew, ba, bk⟩
  · refine ⟨ev ++ [], Or.inl ?_, fun s0 hs => by rw [← List.append_assoc]; exact okE_ext (z2 s0 hs)⟩
    rw [← List.append_assoc]
    obtain ⟨y1, y2⟩ := l_rE (env := lenv xs I ++ ev ++ []) (ren := [n, n + 109, n + 110, n + 111, n + 52, n + (53 + 2 * K), n + 124, n + 125]) (r := 5) (rm := 6) (aS := aS) hK c cm e0 em rfl rfl (x0 [])
    exact lsx_ok (u := [n + 52, n + (53 + 2 * K), n + 124, n + 125]) z1 kI_nil (lRt4 hK) (List.forall_mem_append.mpr ⟨lFE_ok hG hr hK (x0 []), List.forall_mem_cons.mpr ⟨y1, List.forall_mem_cons.mpr ⟨y2, fun _ h => absurd h List.not_mem_nil⟩⟩⟩)
  · refine ⟨ev ++ [a.toInt, k.toInt], Or.inr ?_, fun s0 hs => by rw [← List.append_assoc]; exact okE_ext (z2 s0 hs)⟩
    rw [← List.append_assoc]
    have y : ∀ j z, [a.toInt, k.toInt][j]? = some z → kev (lenv xs I ++ ev ++ [a.toInt, k.toInt]) (ksym (26 + j)) = some z := fun j z hk => ksym_ev (by rw [List.getElem?_append_right (by omega), hl, Nat.add_sub_cancel_left]; exact hk)
    obtain ⟨y1, y2, y3, y4⟩ := l_rF (ren := [n, n + 109, n + 110, n + 111, n + 52, n + (53 + 2 * K), n + 124, n + 125]) (r := 5) (rm := 6) (rv := 7) (aS := aS) hK c cm cw e0 e1 em ew rfl rfl rfl (x0 _) (y 0 _ rfl) (y 1 _ rfl)
    exact lsx_ok (u := [n + 52, n + (53 + 2 * K), n + 124, n + 125]) z1 (kI_cons ba (kI_cons bk kI_nil)) (lRt4 hK) (List.forall_mem_append.mpr ⟨lFE_ok hG hr hK (x0 _), List.forall_mem_cons.mpr ⟨y1, List.forall_mem_cons.mpr ⟨y2, List.forall_mem_cons.mpr ⟨y3, List.forall_mem_cons.mpr ⟨y4, fun _ h => absurd h List.not_mem_nil⟩⟩⟩⟩⟩)
set_option maxHeartbeats 4000000 in
theorem l_stPa {K K' : Nat} (hG : kgood D cA k_tt (sTy n k_tl aS) n H) (hm : lmd D cA k_tt (n + 109) (n + 110) (n + 111) H) (hr : lrw D cA n H) (hK : K < 4) (hK' : K' < 4) (hz : (xs (I + 1)).toInt = (K : Int)) (hz' : (xs (I + 3)).toInt = (K' : Int)) : ∃ ev S, kst D cA k_tt (sTy n k_tl aS) (lenv xs I ++ ev) [n, n + 109, n + 110, n + 111, n + 52, n + (53 + 2 * K), n + (53 + 2 * K'), n + 124, n + 125] (lsk S []) H [] [] ∧ (S = lsPE ∨ S = lsPG ∨ S = lsPQ ∨ ∃ c : Nat, c < 3 ∧ (S = lsPF (0, (c : Int)) ((c : Int) + 1, 3) ∨ S = lsPF ((c : Int) + 1, 3) (0, (c : Int)))) ∧ ∀ s0 ∈ stW, okE (lenv xs I ++ ev) s0 := by
  obtain ⟨ev, z1, z2⟩ := l_stW (xs := xs) (I := I) (a := n) sTy_typ hG hm lT36_at rt0 rt36 (Or.inl ⟨110, rfl, rfl⟩) (Or.inl ⟨111, rfl, rfl⟩)
  have hl : (lenv xs I ++ ev).length = 26 := z1.1.1
  have x0 : ∀ E : List Int, kev (lenv xs I ++ ev ++ E) (ksym 0) = some (K : Int) := fun E => ksym_ev (by rw [← hz]; rfl)
  have x2 : ∀ E : List Int, kev (lenv xs I ++ ev ++ E) (ksym 2) = some (K' : Int) := fun E => ksym_ev (by rw [← hz']; rfl)
  have oE : ∀ E : List Int, ∀ s0 ∈ stW, okE (lenv xs I ++ (ev ++ E)) s0 := fun E s0 hs => by
    rw [← List.append_assoc]
    exact okE_ext (z2 s0 hs)
  have Y : ∀ (E : List Int) (j : Nat) (z : Int), E[j]? = some z → kev (lenv xs I ++ ev ++ E) (ksym (26 + j)) = some z := fun E j z hk => ksym_ev (by rw [List.getElem?_append_right (by omega), hl, Nat.add_sub_cancel_left]; exact hk)
  obtain ⟨V, Vm, Vw, c, cm, cw, hrel⟩ := l_rowK hG hr hK
  obtain ⟨V', Vm', Vw', c', cm', cw', hrel'⟩ := l_rowK hG hr hK'
  have go : ∀ (E : List Int) (iv : kQ) (F : List kF), kI E iv → (∀ q ∈ F, kfok D cA k_tt (sTy n k_tl aS) (lenv xs I ++ ev ++ E) [n, n + 109, n + 110, n + 111, n + 52, n + (53 + 2 * K), n + (53 + 2 * K'), n + 124, n + 125] H q) → kst D cA k_tt (sTy n k_tl aS) (lenv xs I ++ (ev ++ E)) [n, n + 109, n + 110, n + 111, n + 52, n + (53 + 2 * K), n + (53 + 2 * K'), n + 124, n + 125] (lsk (lsx lsW iv [32, 30, 30, 51, 52] (lFP ++ F)) []) H [] [] := fun E iv F hE hF => by
    rw [← List.append_assoc]
    exact lsx_ok (u := [n + 52, n + (53 + 2 * K), n + (53 + 2 * K'), n + 124, n + 125]) z1 hE (lRt5 hK hK') (List.forall_mem_append.mpr ⟨lFP_ok hG hr hK hK' (x0 E) (x2 E), hF⟩)
  rcases hrel with ⟨e0, em⟩ | ⟨a, k, e0, e1, em, ew, ba, bk⟩
  · obtain ⟨y1, y2⟩ := l_rE (env := lenv xs I ++ ev ++ []) (ren := [n, n + 109, n + 110, n + 111, n + 52, n + (53 + 2 * K), n + (53 + 2 * K'), n + 124, n + 125]) (r := 5) (rm := 7) (aS := aS) hK c cm e0 em rfl rfl (x0 [])
    exact ⟨_, _, go [] [] _ kI_nil (List.forall_mem_cons.mpr ⟨y1, List.forall_mem_cons.mpr ⟨y2, fun _ h => absurd h List.not_mem_nil⟩⟩), Or.inl rfl, oE []⟩
  · rcases hrel' with ⟨e0', em'⟩ | ⟨a', k', e0', e1', em', ew', ba', bk'⟩
    · obtain ⟨y1, y2, y3, y4⟩ := l_rF (ren := [n, n + 109, n + 110, n + 111, n + 52, n + (53 + 2 * K), n + (53 + 2 * K'), n + 124, n + 125]) (r := 5) (rm := 7) (rv := 8) (aS := aS) hK c cm cw e0 e1 em ew rfl rfl rfl (x0 [a.toInt, k.toInt]) (Y _ 0 _ rfl) (Y _ 1 _ rfl)
      obtain ⟨y5, y6⟩ := l_rE (env := lenv xs I ++ ev ++ [a.toInt, k.toInt]) (ren := [n, n + 109, n + 110, n + 111, n + 52, n + (53 + 2 * K), n + (53 + 2 * K'), n + 124, n + 125]) (r := 6) (rm := 7) (aS := aS) hK' c' cm' e0' em' rfl rfl (x2 _)
      exact ⟨_, _, go [a.toInt, k.toInt] [(0, 3), (0, 60)] _ (kI_cons ba (kI_cons bk kI_nil)) (List.forall_mem_cons.mpr ⟨y1, List.forall_mem_cons.mpr ⟨y2, List.forall_mem_cons.mpr ⟨y3, List.forall_mem_cons.mpr ⟨y4, List.forall_mem_cons.mpr ⟨y5, List.forall_mem_cons.mpr ⟨y6, fun _ h => absurd h List.not_mem_nil⟩⟩⟩⟩⟩⟩), Or.inr (Or.inl rfl), oE _⟩
    · by_cases haa : a.toInt = a'.toInt
      · have haa2 := Int32.toInt_inj.mp haa
        subst haa2
        obtain ⟨y1, y2, y3, y4⟩ := l_rF (ren := [n, n + 109, n + 110, n + 111, n + 52, n + (53 + 2 * K), n + (53 + 2 * K'), n + 124, n + 125]) (r := 5) (rm := 7) (rv := 8) (aS := aS) hK c cm cw e0 e1 em ew rfl rfl rfl (x0 [a.toInt, k.toInt, k'.toInt]) (Y _ 0 _ rfl) (Y _ 1 _ rfl)
        obtain ⟨y5, y6, y7, y8⟩ := l_rF (ren := [n, n + 109, n + 110, n + 111, n + 52, n + (53 + 2 * K), n + (53 + 2 * K'), n + 124, n + 125]) (r := 6) (rm := 7) (rv := 8) (aS := aS) hK' c' cm' cw' e0' e1' em' ew' rfl rfl rfl (x2 [a.toInt, k.toInt, k'.toInt]) (Y _ 0 _ rfl) (Y _ 2 _ rfl)
        exact ⟨_, _, go [a.toInt, k.toInt, k'.toInt] [(0, 3), (0, 60), (0, 60)] _ (kI_cons ba (kI_cons bk (kI_cons bk' kI_nil))) (List.forall_mem_cons.mpr ⟨y1, List.forall_mem_cons.mpr ⟨y2, List.forall_mem_cons.mpr ⟨y3, List.forall_mem_cons.mpr ⟨y4, List.forall_mem_cons.mpr ⟨y5, List.forall_mem_cons.mpr ⟨y6, List.forall_mem_cons.mpr ⟨y7, List.forall_mem_cons.mpr ⟨y8, fun _ h => absurd h List.not_mem_nil⟩⟩⟩⟩⟩⟩⟩⟩), Or.inr (Or.inr (Or.inl rfl)), oE _⟩
      · obtain ⟨y1, y2, y3, y4⟩ := l_rF (ren := [n, n + 109, n + 110, n + 111, n + 52, n + (53 + 2 * K), n + (53 + 2 * K'), n + 124, n + 125]) (r := 5) (rm := 7) (rv := 8) (aS := aS) hK c cm cw e0 e1 em ew rfl rfl rfl (x0 [a.toInt, k.toInt, a'.toInt, k'.toInt]) (Y _ 0 _ rfl) (Y _ 1 _ rfl)
        obtain ⟨y5, y6, y7, y8⟩ := l_rF (ren := [n, n + 109, n + 110, n + 111, n + 52, n + (53 + 2 * K), n + (53 + 2 * K'), n + 124, n + 125]) (r := 6) (rm := 7) (rv := 8) (aS := aS) hK' c' cm' cw' e0' e1' em' ew' rfl rfl rfl (x2 [a.toInt, k.toInt, a'.toInt, k'.toInt]) (Y _ 2 _ rfl) (Y _ 3 _ rfl)
        have gF := fun (iv : kQ) (hE : kI [a.toInt, k.toInt, a'.toInt, k'.toInt] iv) => go [a.toInt, k.toInt, a'.toInt, k'.toInt] iv _ hE (List.forall_mem_cons.mpr ⟨y1, List.forall_mem_cons.mpr ⟨y2, List.forall_mem_cons.mpr ⟨y3, List.forall_mem_cons.mpr ⟨y4, List.forall_mem_cons.mpr ⟨y5, List.forall_mem_cons.mpr ⟨y6, List.forall_mem_cons.mpr ⟨y7, List.forall_mem_cons.mpr ⟨y8, fun _ h => absurd h List.not_mem_nil⟩⟩⟩⟩⟩⟩⟩⟩)
        by_cases hlt : a.toInt < a'.toInt
        · refine ⟨_, _, gF [(0, ((a.toInt.toNat : Nat) : Int)), (0, 60), (((a.toInt.toNat : Nat) : Int) + 1, 3), (0, 60)] (kI_cons ⟨ba.1, by show a.toInt ≤ ((a.toInt.toNat : Nat) : Int); omega⟩ (kI_cons bk (kI_cons ⟨by show ((a.toInt.toNat : Nat) : Int) + 1 ≤ a'.toInt; omega, ba'.2⟩ (kI_cons bk' kI_nil)))), Or.inr (Or.inr (Or.inr ⟨a.toInt.toNat, by omega, Or.inl rfl⟩)), oE _⟩
        · refine ⟨_, _, gF [(((a'.toInt.toNat : Nat) : Int) + 1, 3), (0, 60), (0, ((a'.toInt.toNat : Nat) : Int)), (0, 60)] (kI_cons ⟨by show ((a'.toInt.toNat : Nat) : Int) + 1 ≤ a.toInt; omega, ba.2⟩ (kI_cons bk (kI_cons ⟨ba'.1, by show a'.toInt ≤ ((a'.toInt.toNat : Nat) : Int); omega⟩ (kI_cons bk' kI_nil)))), Or.inr (Or.inr (Or.inr ⟨a'.toInt.toNat, by omega, Or.inr rfl⟩)), oE _⟩
end LWP
