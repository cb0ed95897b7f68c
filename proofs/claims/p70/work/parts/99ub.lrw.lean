/-! THE ROWS, the same on both sides -/
def lT30 : kT := k_tt.getD 30 (0, 0, [], [])
def lT31 : kT := k_tt.getD 31 (0, 0, [], [])
def lT32 : kT := k_tt.getD 32 (0, 0, [], [])
def lT51 : kT := k_tt.getD 51 (0, 0, [], [])
def lT52 : kT := k_tt.getD 52 (0, 0, [], [])
def lT12 : kT := k_tt.getD 12 (0, 0, [], [])
def lT13 : kT := k_tt.getD 13 (0, 0, [], [])
def lT15 : kT := k_tt.getD 15 (0, 0, [], [])
theorem lT30_at : k_tt[30]? = some lT30 := rfl
theorem lT31_at : k_tt[31]? = some lT31 := rfl
theorem lT32_at : k_tt[32]? = some lT32 := rfl
theorem lT51_at : k_tt[51]? = some lT51 := rfl
theorem lT52_at : k_tt[52]? = some lT52 := rfl
theorem lT12_at : k_tt[12]? = some lT12 := rfl
theorem lT13_at : k_tt[13]? = some lT13 := rfl
theorem lT15_at : k_tt[15]? = some lT15 := rfl
theorem lT30_n : lT30.2.1 = 3 := by decide +kernel
theorem lT32_n : lT32.2.1 = 4 := by decide +kernel
theorem lT51_n : lT51.2.1 = 4 := by decide +kernel
theorem lT52_n : lT52.2.1 = 4 := by decide +kernel
theorem lT12_n : lT12.2.1 = 4 := by decide +kernel
theorem lT13_n : lT13.2.1 = 40 := by decide +kernel
theorem lT15_n : lT15.2.1 = 40 := by decide +kernel
/-- a row: its width and size in the class, its size and width in the reference -/
def lrel (w z m v : Value) : Prop := (w = .int (-1) ∧ m = .int (-1)) ∨ ∃ a k : Int32, w = .int a ∧ z = .int k ∧ m = .int k ∧ v = .int a ∧ (0 ≤ a.toInt ∧ a.toInt ≤ 3) ∧ (0 ≤ k.toInt ∧ k.toInt ≤ 60)
def lrw (D : va_G) (cA : Nat → ClassId) (n : Nat) (H : Heap) : Prop := (∀ V : Nat → Value, kcell D cA lT0 n H V → V 9 = .ref (n + 52)) ∧ (∀ V : Nat → Value, kcell D cA lT32 (n + 52) H V → ∀ j, j < 4 → V j = .ref (n + (53 + 2 * j))) ∧ (∀ V : Nat → Value, kcell D cA lT36 (n + 109) H V → V 34 = .ref (n + 124) ∧ V 35 = .ref (n + 125)) ∧ (∀ j, j < 4 → ∀ V : Nat → Value, kcell D cA lT30 (n + (53 + 2 * j)) H V → V 2 = .ref (n + (54 + 2 * j))) ∧ ∀ j, j < 4 → ∀ V Vm Vw : Nat → Value, kcell D cA lT30 (n + (53 + 2 * j)) H V → kcell D cA lT51 (n + 124) H Vm → kcell D cA lT52 (n + 125) H Vw → lrel (V 0) (V 1) (Vm j) (Vw j)
/-- what is asked of a step that leaves the rows as they are -/
def lrk (D : va_G) (cA : Nat → ClassId) (T : kT) (a : Nat) (N : Nat) (H H' : Heap) : Prop := ∀ V' : Nat → Value, kcell D cA T a H' V' → ∃ V : Nat → Value, kcell D cA T a H V ∧ ∀ j, j < N → V' j = V j
theorem lrw_keep {D : va_G} {cA : Nat → ClassId} {n : Nat} {H H' : Heap} (h : lrw D cA n H) (k0 : ∀ V' : Nat → Value, kcell D cA lT0 n H' V' → ∃ V : Nat → Value, kcell D cA lT0 n H V ∧ V' 9 = V 9) (k32 : lrk D cA lT32 (n + 52) 4 H H') (k36 : ∀ V' : Nat → Value, kcell D cA lT36 (n + 109) H' V' → ∃ V : Nat → Value, kcell D cA lT36 (n + 109) H V ∧ V' 34 = V 34 ∧ V' 35 = V 35) (k30 : ∀ j, j < 4 → lrk D cA lT30 (n + (53 + 2 * j)) 3 H H') (k51 : lrk D cA lT51 (n + 124) 4 H H') (k52 : lrk D cA lT52 (n + 125) 4 H H') : lrw D cA n H' := by
  obtain ⟨h1, h2, h3, h4, h5⟩ := h
  refine ⟨fun V hV => ?_, fun V hV j hj => ?_, fun V hV => ?_, fun j hj V hV => ?_, fun j hj V Vm Vw hV hm hw => ?_⟩
  · obtain ⟨V0, c, e⟩ := k0 V hV
    exact e.trans (h1 V0 c)
  · obtain ⟨V0, c, e⟩ := k32 V hV
    exact (e j hj).trans (h2 V0 c j hj)
  · obtain ⟨V0, c, e1, e2⟩ := k36 V hV
    exact ⟨e1.trans (h3 V0 c).1, e2.trans (h3 V0 c).2⟩
  · obtain ⟨V0, c, e⟩ := k30 j hj V hV
    exact (e 2 (by decide)).trans (h4 j hj V0 c)
  · obtain ⟨V0, c, e⟩ := k30 j hj V hV
    obtain ⟨V1, c1, e1⟩ := k51 Vm hm
    obtain ⟨V2, c2, e2⟩ := k52 Vw hw
    rw [e 0 (by decide), e 1 (by decide), e1 j hj, e2 j hj]
    exact h5 j hj V0 V1 V2 c c1 c2
section LRW
variable {D : va_G} {cA : Nat → ClassId} {aS : Nat → Nat} {n : Nat} {H H' : Heap}
theorem rt0 : sTy n k_tl aS n 0 := Or.inl ⟨0, rfl, rfl⟩
theorem rt32 : sTy n k_tl aS (n + 52) 32 := Or.inl ⟨52, rfl, rfl⟩
theorem rt36 : sTy n k_tl aS (n + 109) 36 := Or.inl ⟨109, rfl, rfl⟩
theorem rt51 : sTy n k_tl aS (n + 124) 51 := Or.inl ⟨124, rfl, rfl⟩
theorem rt52 : sTy n k_tl aS (n + 125) 52 := Or.inl ⟨125, rfl, rfl⟩
theorem rt30 {j : Nat} (hj : j < 4) : sTy n k_tl aS (n + (53 + 2 * j)) 30 := Or.inl ⟨53 + 2 * j, rfl, by
  match j, hj with
  | 0, _ => rfl
  | 1, _ => rfl
  | 2, _ => rfl
  | 3, _ => rfl
  | j + 4, hj => omega⟩
theorem rt31 {j : Nat} (hj : j < 4) : sTy n k_tl aS (n + (54 + 2 * j)) 31 := Or.inl ⟨54 + 2 * j, rfl, by
  match j, hj with
  | 0, _ => rfl
  | 1, _ => rfl
  | 2, _ => rfl
  | 3, _ => rfl
  | j + 4, hj => omega⟩
def lrww (wr : kW) : Bool := lnotf wr 0 9 && (lnot wr 32 && (lnotf wr 36 34 && (lnotf wr 36 35 && (lnot wr 30 && (lnot wr 51 && lnot wr 52)))))
theorem lrk_of {wr : kW} {T : kT} {a t N : Nat} (hG : kgood D cA k_tt (sTy n k_tl aS) n H) (hk : kkp D cA k_tt (sTy n k_tl aS) wr H H') (hw : lnot wr t = true) (ht : sTy n k_tl aS a t) (hT : k_tt[t]? = some T) (hN : N ≤ T.2.1) : lrk D cA T a N H H' := fun V' hV => by
  obtain ⟨V, c, e⟩ := kkp_all hG hk (lnot_ok hw) ht hT hV
  exact ⟨V, c, fun j hj => e j (by omega)⟩
theorem lrw_kkp {wr : kW} (hG : kgood D cA k_tt (sTy n k_tl aS) n H) (hk : kkp D cA k_tt (sTy n k_tl aS) wr H H') (hw : lrww wr = true) (h : lrw D cA n H) : lrw D cA n H' := by
  unfold lrww at hw
  simp only [Bool.and_eq_true] at hw
  obtain ⟨w1, w2, w3, w4, w5, w6, w7⟩ := hw
  refine lrw_keep h (fun V' hV => kkp_fld hG hk w1 rt0 lT0_at (by rw [lT0_n]; decide) hV) (lrk_of hG hk w2 rt32 lT32_at (by rw [lT32_n]; decide)) (fun V' hV => ?_) (fun j hj => lrk_of hG hk w5 (rt30 hj) lT30_at (by rw [lT30_n]; decide)) (lrk_of hG hk w6 rt51 lT51_at (by rw [lT51_n]; decide)) (lrk_of hG hk w7 rt52 lT52_at (by rw [lT52_n]; decide))
  obtain ⟨V, c, e⟩ := kkp_fld hG hk w3 rt36 lT36_at (by rw [lT36_n]; decide) hV
  obtain ⟨V2, c2, e2⟩ := kkp_fld hG hk w4 rt36 lT36_at (by rw [lT36_n]; decide) hV
  exact ⟨V, c, e, e2.trans (kcell_uniq c2 c (by rw [lT36_n]; decide))⟩
end LRW
/-! ROW OF A SLOT: all other cells stay -/
theorem kcell_congr {D : va_G} {cA : Nat → ClassId} {T : kT} {a : Nat} {H : Heap} {V V' : Nat → Value} (h : kcell D cA T a H V) (he : ∀ j, j < T.2.1 → V j = V' j) : kcell D cA T a H V' := by
  unfold kcell at h ⊢
  cases hb : Nat.blt T.1 100 with
  | true =>
    rw [hb] at h
    obtain ⟨c, h1, h2, h3, h4⟩ := h
    exact ⟨c, h1, h2, h3, fun k hk => by rw [h4 k hk, he k hk]⟩
  | false =>
    rw [hb] at h
    have e : (fun j : Fin T.2.1 => V j.val) = (fun j : Fin T.2.1 => V' j.val) := funext (fun j => he j.val j.isLt)
    have h : H[a]? = some (arrV (cA (T.1 - 100)) T.2.1 V) := h
    show H[a]? = some (arrV (cA (T.1 - 100)) T.2.1 V')
    rw [h]
    unfold arrV
    rw [e]
theorem kcell_as {D : va_G} {cA : Nat → ClassId} {T T' : kT} {a : Nat} {H : Heap} {V : Nat → Value} (h : kcell D cA T a H V) (h1 : T'.1 = T.1) (h2 : T'.2.1 = T.2.1) : kcell D cA T' a H V := by
  unfold kcell at h ⊢
  rw [h1, h2]
  exact h
def kisr (p : kP) : Bool := match p with
  | .inr (.inr _) => true
  | _ => false
theorem kvals_map {Ty Ty' : Nat → Nat → Prop} {T : kT} {V : Nat → Value} (h : kvals Ty T V) (hs : T.2.2.2 = []) (hr : ∀ r ∈ T.2.2.1, kisr r.2.2.2 = true → ∀ P, P < r.2.2.1 → kpok Ty r.2.2.2 (V (r.1 + r.2.1 * P)) → kpok Ty' r.2.2.2 (V (r.1 + r.2.1 * P))) : kvals Ty' T V := by
  refine ⟨fun r hrr P hP => ?_, fun r hrr => by rw [hs] at hrr; cases hrr⟩
  have h1 := h.1 r hrr P hP
  cases hk : kisr r.2.2.2 with
  | true => exact hr r hrr hk P hP h1
  | false =>
    match hp : r.2.2.2 with
    | .inl q => rw [hp] at h1; exact h1
    | .inr (.inl q) => rw [hp] at h1; exact h1
    | .inr (.inr t) => rw [hp] at hk; cases hk
def rTy (n : Nat) (aS : Nat → Nat) (K a t : Nat) : Prop := (t = 30 ∧ a = n + (53 + 2 * K)) ∨ (t = 31 ∧ a = n + (54 + 2 * K)) ∨ (t = 55 + K ∧ a = n) ∨ (t = 59 + K ∧ a = n + 52) ∨ (∃ t0, t = 100 + t0 ∧ t0 < 55 ∧ sTy n k_tl aS a t0 ∧ a ≠ n ∧ a ≠ n + 52 ∧ a ≠ n + (53 + 2 * K) ∧ a ≠ n + (54 + 2 * K)) ∨ (1000 ≤ t ∧ sTy n k_tl aS a t)
theorem lRc : ∀ K, K < 4 → k_ttR[55 + K]? = some ((9, 13, [(9, 1, 1, .inr (.inr (59 + K)))], []) : kT) := fun K hK => by
  match K, hK with
  | 0, _ => rfl
  | 1, _ => rfl
  | 2, _ => rfl
  | 3, _ => rfl
  | K + 4, hK => omega
theorem lRr : ∀ K, K < 4 → k_ttR[59 + K]? = some ((104, 4, [(K, 1, 1, .inr (.inr 30))], []) : kT) := fun K hK => by
  match K, hK with
  | 0, _ => rfl
  | 1, _ => rfl
  | 2, _ => rfl
  | 3, _ => rfl
  | K + 4, hK => omega
theorem lRa : k_ttA.length = 100 := by decide +kernel
theorem lRf : ∀ t0, t0 < 55 → k_ttR[100 + t0]? = (k_tt[t0]?).map kfrz := fun t0 _ => by
  unfold k_ttR
  rw [List.getElem?_append_right (by rw [lRa]; omega), lRa, Nat.add_sub_cancel_left, List.getElem?_map]
theorem lRlen : k_ttR.length = 155 := by decide +kernel
theorem lRtt : k_tt.length = 55 := by decide +kernel
theorem lR30 : k_ttR[30]? = some lT30 := rfl
theorem lR31 : k_ttR[31]? = some lT31 := rfl
theorem lRr30 : ∀ r ∈ lT30.2.2.1, kisr r.2.2.2 = true → r = ((2, 1, 1, .inr (.inr 31)) : kRun) := List.forall_mem_cons.mpr ⟨(fun h => by cases h), List.forall_mem_cons.mpr ⟨(fun h => by cases h), List.forall_mem_cons.mpr ⟨fun _ => rfl, fun _ h => absurd h List.not_mem_nil⟩⟩⟩
theorem lRr31 : ∀ r ∈ lT31.2.2.1, kisr r.2.2.2 = false := by decide +kernel
theorem lRs30 : lT30.2.2.2 = [] := by decide +kernel
theorem lRs31 : lT31.2.2.2 = [] := by decide +kernel
theorem lRtb : kTypb k_ttR = true := by decide +kernel
theorem lR0 : lT0.1 = 9 ∧ lT0.2.1 = 13 := by decide +kernel
theorem lR32 : lT32.1 = 104 ∧ lT32.2.1 = 4 := by decide +kernel
section RTY
variable {D : va_G} {cA : Nat → ClassId} {aS : Nat → Nat} {n K : Nat} {H H' : Heap}
theorem rTy_typ : kTyp k_ttR (rTy n aS K) := kTypb_ok lRtb (fun a t t' h1 h2 h h' => by
  rcases h with ⟨e, ea⟩ | ⟨e, ea⟩ | ⟨e, ea⟩ | ⟨e, ea⟩ | ⟨t0, e, b, hs, n1, n2, n3, n4⟩ | ⟨e, hs⟩ <;> rcases h' with ⟨e', ea'⟩ | ⟨e', ea'⟩ | ⟨e', ea'⟩ | ⟨e', ea'⟩ | ⟨t0', e', b', hs', n1', n2', n3', n4'⟩ | ⟨e', hs'⟩ <;> first | omega | (have := sTy_typ.1 a t0 t0' (by omega) (by omega) hs hs'; omega))
theorem rTy_str : ∀ (j : Nat) (q : String × Nat × String), k_sk[j]? = some q → rTy n aS K (aS j) (ksn j) := fun j q hq => Or.inr (Or.inr (Or.inr (Or.inr (Or.inr ⟨ksn_ge j, sTy_str j q hq⟩))))
theorem rTy_no {a t : Nat} (h1 : t < 55) (h2 : t ≠ 30) (h3 : t ≠ 31) : ¬ rTy n aS K a t := by
  rintro (⟨e, _⟩ | ⟨e, _⟩ | ⟨e, _⟩ | ⟨e, _⟩ | ⟨t0, e, _⟩ | ⟨e, _⟩) <;> omega
/-- the type of a cell that isn't written -/
theorem rtyp (hK : K < 4) {a t : Nat} {T : kT} (ht : sTy n k_tl aS a t) (hT : k_tt[t]? = some T) (h3 : a ≠ n + (53 + 2 * K)) (h4 : a ≠ n + (54 + 2 * K)) : ∃ (t' : Nat) (T' : kT), rTy n aS K a t' ∧ k_ttR[t']? = some T' ∧ T'.1 = T.1 ∧ T'.2.1 = T.2.1 ∧ t' ≠ 30 ∧ t' ≠ 31 := by
  have hl : t < 55 := by
    have := (List.getElem?_eq_some_iff.mp hT).1
    rw [lRtt] at this
    exact this
  by_cases ha : a = n
  · subst ha
    have e := sTy_typ.1 _ _ _ (by omega) (by omega) ht rt0
    subst e
    have e2 : T = lT0 := Option.some.inj (hT.symm.trans lT0_at)
    subst e2
    exact ⟨55 + K, _, Or.inr (Or.inr (Or.inl ⟨rfl, rfl⟩)), lRc K hK, lR0.1.symm, lR0.2.symm, by omega, by omega⟩
  · by_cases hb : a = n + 52
    · subst hb
      have e := sTy_typ.1 _ _ _ (by omega) (by omega) ht rt32
      subst e
      have e2 : T = lT32 := Option.some.inj (hT.symm.trans lT32_at)
      subst e2
      exact ⟨59 + K, _, Or.inr (Or.inr (Or.inr (Or.inl ⟨rfl, rfl⟩))), lRr K hK, lR32.1.symm, lR32.2.symm, by omega, by omega⟩
    · refine ⟨100 + t, kfrz T, Or.inr (Or.inr (Or.inr (Or.inr (Or.inl ⟨t, rfl, hl, ht, ha, hb, h3, h4⟩)))), ?_, rfl, rfl, by omega, by omega⟩
      rw [lRf t hl, hT]
      rfl
theorem rgood (hK : K < 4) (hG : kgood D cA k_tt (sTy n k_tl aS) n H) (hr : lrw D cA n H) : kgood D cA k_ttR (rTy n aS K) n H := by
  refine ⟨fun a t T h hT => ?_, ⟨fun a T V h => absurd h (rTy_no (by decide) (by decide) (by decide)), fun a b c T To Tw V Vo Vw j m h => absurd h (rTy_no (by decide) (by decide) (by decide))⟩⟩
  rcases h with ⟨e, ea⟩ | ⟨e, ea⟩ | ⟨e, ea⟩ | ⟨e, ea⟩ | ⟨t0, e, b, hs, n1, n2, n3, n4⟩ | ⟨e, hs⟩
  · subst e; subst ea
    have eT : T = lT30 := Option.some.inj (hT.symm.trans lR30)
    subst eT
    obtain ⟨l1, V, c, v⟩ := hG.1 _ 30 _ (rt30 hK) lT30_at
    refine ⟨l1, V, c, kvals_map v lRs30 (fun r hrr hk P hP _ => ?_)⟩
    have er := lRr30 r hrr hk
    subst er
    have eP : P = 0 := by
      have hP : P < 1 := hP
      omega
    subst eP
    exact ⟨n + (54 + 2 * K), hr.2.2.2.1 K hK V c, Or.inr (Or.inl ⟨rfl, rfl⟩)⟩
  · subst e; subst ea
    have eT : T = lT31 := Option.some.inj (hT.symm.trans lR31)
    subst eT
    obtain ⟨l1, V, c, v⟩ := hG.1 _ 31 _ (rt31 hK) lT31_at
    exact ⟨l1, V, c, kvals_map v lRs31 (fun r hrr hk => by rw [lRr31 r hrr] at hk; cases hk)⟩
  · subst e; subst ea
    have eT := Option.some.inj (hT.symm.trans (lRc K hK))
    subst eT
    obtain ⟨l1, V, c, v⟩ := hG.1 a 0 _ rt0 lT0_at
    refine ⟨l1, V, kcell_as c lR0.1.symm lR0.2.symm, fun r hrr P hP => ?_, fun r hrr => by cases hrr⟩
    have er := List.mem_singleton.mp hrr
    subst er
    have eP : P = 0 := by
      have hP : P < 1 := hP
      omega
    subst eP
    exact ⟨a + 52, hr.1 V c, Or.inr (Or.inr (Or.inr (Or.inl ⟨rfl, rfl⟩)))⟩
  · subst e; subst ea
    have eT := Option.some.inj (hT.symm.trans (lRr K hK))
    subst eT
    obtain ⟨l1, V, c, v⟩ := hG.1 _ 32 _ rt32 lT32_at
    refine ⟨l1, V, kcell_as c lR32.1.symm lR32.2.symm, fun r hrr P hP => ?_, fun r hrr => by cases hrr⟩
    have er := List.mem_singleton.mp hrr
    subst er
    have eP : P = 0 := by
      have hP : P < 1 := hP
      omega
    subst eP
    exact ⟨n + (53 + 2 * K), hr.2.1 V c K hK, Or.inl ⟨rfl, rfl⟩⟩
  · subst e
    rw [lRf t0 b] at hT
    cases h0 : k_tt[t0]? with
    | none => rw [h0] at hT; cases hT
    | some T0 =>
      rw [h0] at hT
      cases hT
      obtain ⟨l1, V, c, v⟩ := hG.1 a t0 T0 hs h0
      exact ⟨l1, V, kcell_as c rfl rfl, ⟨(fun r hrr => by cases hrr), (fun r hrr => by cases hrr)⟩⟩
  · have := (List.getElem?_eq_some_iff.mp hT).1
    rw [lRlen] at this
    omega
theorem rframe {wr : kW} (hK : K < 4) (hG : kgood D cA k_tt (sTy n k_tl aS) n H) (hk : kkp D cA k_ttR (rTy n aS K) wr H H') (hw : ∀ w ∈ wr, w.1 = 30 ∨ w.1 = 31) {a t : Nat} {T : kT} {V' : Nat → Value} (ht : sTy n k_tl aS a t) (hT : k_tt[t]? = some T) (h3 : a ≠ n + (53 + 2 * K)) (h4 : a ≠ n + (54 + 2 * K)) (hc : kcell D cA T a H' V') : ∃ V, kcell D cA T a H V ∧ kvals (sTy n k_tl aS) T V ∧ ∀ j, j < T.2.1 → V' j = V j := by
  obtain ⟨-, V, c1, v1⟩ := hG.1 a t T ht hT
  obtain ⟨t', T', y1, y2, y3, y4, y5, y6⟩ := rtyp hK ht hT h3 h4
  refine ⟨V, c1, v1, fun j hj => ?_⟩
  obtain ⟨V2, c2, e2⟩ := hk a t' T' V j y1 y2 (kcell_as c1 y3 y4) (by rw [y4]; exact hj) (fun w hw2 e => by
    rcases hw w hw2 with h | h <;> omega)
  exact (kcell_uniq hc (kcell_as c2 y3.symm y4.symm) hj).trans e2
theorem rback {wr : kW} (hK : K < 4) (hG : kgood D cA k_tt (sTy n k_tl aS) n H) (hG' : kgood D cA k_ttR (rTy n aS K) n H') (hk : kkp D cA k_ttR (rTy n aS K) wr H H') (hw : ∀ w ∈ wr, w.1 = 30 ∨ w.1 = 31) : kgood D cA k_tt (sTy n k_tl aS) n H' := by
  have ne : ∀ {a t : Nat}, sTy n k_tl aS a t → t < 55 → t ≠ 30 → t ≠ 31 → a ≠ n + (53 + 2 * K) ∧ a ≠ n + (54 + 2 * K) := fun {a t} h l1 l2 l3 => ⟨fun e => by
    subst e
    exact l2 (sTy_typ.1 _ _ _ (by omega) (by omega) h (rt30 hK)), fun e => by
    subst e
    exact l3 (sTy_typ.1 _ _ _ (by omega) (by omega) h (rt31 hK))⟩
  refine ⟨fun a t T ht hT => ⟨(hG.1 a t T ht hT).1, ?_⟩, ⟨fun a T V h1 h2 h3 => ?_, fun a b c T To Tw V Vo Vw j m h1 h2 h3 h4 h5 h6 h7 h8 h9 h10 h11 h12 h13 h14 => ?_⟩⟩
  · have hl : t < 55 := by
      have := (List.getElem?_eq_some_iff.mp hT).1
      rw [lRtt] at this
      exact this
    by_cases ha : a = n + (53 + 2 * K)
    · subst ha
      have e := sTy_typ.1 _ _ _ (by omega) (by omega) ht (rt30 hK)
      subst e
      have eT : T = lT30 := Option.some.inj (hT.symm.trans lT30_at)
      subst eT
      obtain ⟨-, V, c, v⟩ := hG'.1 _ 30 _ (Or.inl ⟨rfl, rfl⟩) lR30
      refine ⟨V, c, kvals_map v lRs30 (fun r hrr hk2 P hP h0 => ?_)⟩
      have er := lRr30 r hrr hk2
      subst er
      obtain ⟨b, e1, e2⟩ := h0
      rcases e2 with ⟨e, _⟩ | ⟨_, e⟩ | ⟨e, _⟩ | ⟨e, _⟩ | ⟨t0, e, _⟩ | ⟨e, _⟩
      · omega
      · exact ⟨b, e1, by rw [e]; exact rt31 hK⟩
      · omega
      · omega
      · omega
      · omega
    · by_cases hb : a = n + (54 + 2 * K)
      · subst hb
        have e := sTy_typ.1 _ _ _ (by omega) (by omega) ht (rt31 hK)
        subst e
        have eT : T = lT31 := Option.some.inj (hT.symm.trans lT31_at)
        subst eT
        obtain ⟨-, V, c, v⟩ := hG'.1 _ 31 _ (Or.inr (Or.inl ⟨rfl, rfl⟩)) lR31
        exact ⟨V, c, kvals_map v lRs31 (fun r hrr hk2 => by rw [lRr31 r hrr] at hk2; cases hk2)⟩
      · obtain ⟨t', T', y1, y2, y3, y4, -, -⟩ := rtyp hK ht hT ha hb
        obtain ⟨-, V', c', -⟩ := hG'.1 a t' T' y1 y2
        have c2 : kcell D cA T a H' V' := kcell_as c' y3.symm y4.symm
        obtain ⟨V, c, v, e⟩ := rframe hK hG hk hw ht hT ha hb c2
        exact ⟨V, kcell_congr c2 e, v⟩
  · obtain ⟨n1, n2⟩ := ne h1 (by decide) (by decide) (by decide)
    obtain ⟨V0, c, -, e⟩ := rframe hK hG hk hw h1 h2 n1 n2 h3
    have eT : T = lT12 := Option.some.inj (h2.symm.trans lT12_at)
    have hN : T.2.1 = 4 := by rw [eT, lT12_n]
    rw [e 1 (by omega), e 2 (by omega), e 3 (by omega)]
    exact hG.2.1 a T V0 h1 h2 c
  · obtain ⟨n1, n2⟩ := ne h1 (by decide) (by decide) (by decide)
    obtain ⟨V0, c0, -, e⟩ := rframe hK hG hk hw h1 h2 n1 n2 h3
    have eT : T = lT12 := Option.some.inj (h2.symm.trans lT12_at)
    have hN : T.2.1 = 4 := by rw [eT, lT12_n]
    obtain ⟨m1, m2⟩ := ne h6 (by decide) (by decide) (by decide)
    obtain ⟨V1, c1, -, e1⟩ := rframe hK hG hk hw h6 h7 m1 m2 h8
    have eT1 : To = lT13 := Option.some.inj (h7.symm.trans lT13_at)
    have hN1 : To.2.1 = 40 := by rw [eT1, lT13_n]
    obtain ⟨k1, k2⟩ := ne h9 (by decide) (by decide) (by decide)
    obtain ⟨V2, c2, -, e2⟩ := rframe hK hG hk hw h9 h10 k1 k2 h11
    have eT2 : Tw = lT15 := Option.some.inj (h10.symm.trans lT15_at)
    have hN2 : Tw.2.1 = 40 := by rw [eT2, lT15_n]
    exact hG.2.2 a b c T To Tw V0 V1 V2 j m h1 h2 c0 ((e 1 (by omega)).symm.trans h4) ((e 3 (by omega)).symm.trans h5) h6 h7 c1 h9 h10 c2 h12 ((e1 j (by omega)).symm.trans h13) ((e2 j (by omega)).symm.trans h14)
end RTY
