/-! BRANCHES -/
def ktgt (pc : Nat) (off : Int) : Option Nat := match Int.ofNat pc + off with
  | .ofNat n => some n
  | .negSucc _ => none
theorem ktgt_ok {pc n : Nat} {off : Int} (h : ktgt pc off = some n) : (pc : Int) + off = (n : Int) := by
  unfold ktgt at h
  split at h
  · rename_i k hk
    obtain rfl := Option.some.inj h
    exact hk
  · cases h
def knot (cd : Jvm.ClassFile.Cond) : Jvm.ClassFile.Cond := match cd with
  | .eq => .ne
  | .ne => .eq
  | .lt => .ge
  | .ge => .lt
  | .gt => .le
  | .le => .gt
def kholds (cd : Jvm.ClassFile.Cond) (z : Int) : Prop := match cd with
  | .eq => z = 0
  | .ne => z ≠ 0
  | .lt => z < 0
  | .ge => 0 ≤ z
  | .gt => 0 < z
  | .le => z ≤ 0
theorem kholds_not {cd : Jvm.ClassFile.Cond} {z : Int} (h : ¬ kholds cd z) : kholds (knot cd) z := by
  cases cd <;> simp only [kholds, knot] at h ⊢ <;> omega
def ktk (S : kS) (cd : Jvm.ClassFile.Cond) (f : kL) : Option kS := match cd with
  | .eq => match kasmS S f with
    | some S' => kasmS S' (kneg f)
    | none => none
  | .ne => match kgeS S f with
    | true => kasmS S (kofs f (-1))
    | false => match kgeS S (kneg f) with
      | true => kasmS S (kofs (kneg f) (-1))
      | false => some S
  | .lt => kasmS S (kofs (kneg f) (-1))
  | .ge => kasmS S f
  | .gt => kasmS S (kofs f (-1))
  | .le => kasmS S (kneg f)
def kopt (t : Nat) (o : Option kS) (r : List (Nat × kS)) : List (Nat × kS) := match o with
  | some S => (t, S) :: r
  | none => r
theorem kopt_in {t : Nat} {o : Option kS} {r : List (Nat × kS)} {S : kS} (h : o = some S) : (t, S) ∈ kopt t o r := by
  subst h
  exact List.mem_cons_self
theorem kopt_tl {t : Nat} {o : Option kS} {r : List (Nat × kS)} {q : Nat × kS} (h : q ∈ r) : q ∈ kopt t o r := by
  unfold kopt
  split
  · exact List.mem_cons_of_mem _ h
  · exact h
def ktsw (pc : Nat) (S : kS) (f : kL) : Int → List Int → Option (List (Nat × kS))
  | _, [] => some []
  | v, o :: t => match ktgt pc o, ktsw pc S f (v + 1) t with
    | some tg, some r => match kasmS S (kofs f (-v)) with
      | some S1 => some (kopt tg (kasmS S1 (kofs (kneg f) v)) r)
      | none => some r
    | _, _ => none
/-- branches: the states behind -/
def kbr (pc : Nat) (ins : Instr) (S : kS) : Option (List (Nat × kS)) := match ins with
  | .goto off => match ktgt pc off with
    | some t => some [(t, S)]
    | none => none
  | .ifCond cd off => match S.2.2.2.1, ktgt pc off with
    | .inl f :: st, some t => some (kopt t (ktk (ksloc S S.2.2.1 st) cd f) (kopt (pc + 3) (ktk (ksloc S S.2.2.1 st) (knot cd) f) []))
    | .inr (.inr (.inr w)) :: st, some t => some (kopt t (ktk (ksloc S S.2.2.1 st) cd (ksub w.1 w.2)) (kopt (pc + 3) (ktk (ksloc S S.2.2.1 st) (knot cd) (ksub w.1 w.2)) []))
    | _, _ => none
  | .if_icmp cd off => match S.2.2.2.1, ktgt pc off with
    | .inl g :: .inl f :: st, some t => some (kopt t (ktk (ksloc S S.2.2.1 st) cd (ksub f g)) (kopt (pc + 3) (ktk (ksloc S S.2.2.1 st) (knot cd) (ksub f g)) []))
    | _, _ => none
  | .tableswitch dflt lo hi offs => match S.2.2.2.1, ktgt pc dflt with
    | .inl f :: st, some t => match kz (Int.ofNat offs.toList.length - (hi - lo + 1)) with
      | true => match ktsw pc (ksloc S S.2.2.1 st) f lo offs.toList with
        | some r => some (kopt t (kasmS (ksloc S S.2.2.1 st) (ksub (kcst (lo - 1)) f)) (kopt t (kasmS (ksloc S S.2.2.1 st) (kofs f (-hi - 1))) r))
        | none => none
      | false => none
    | _, _ => none
  | _ => none
section KBR
variable {p : Program} {l : Launch} {e : Env} {R : Room} {s : State} {m : MethodId} {args : Array Value} {below : List Frame} {meth : Method} {c : Code} {H : Heap} {locs : List Loc} {cells slots : Nat} {Q : State → Prop}
variable {cc : ByteArray} {pc : Nat} {ls : Array Slot} {cA : Nat → Nat} {rest : List Value}
variable {D : va_G} {tt : List kT} {Ty : Nat → Nat → Prop} {env : List Int} {ren : List Nat} {S : kS} {lv : List (Nat × Value)} {st : List Value}
theorem ktk_ok {cd : Jvm.ClassFile.Cond} {f : kL} {z : Int} (h : kst D cA tt Ty env ren S H lv st) (hf : kev env f = some z) (hz : kholds cd z) : ∃ S', ktk S cd f = some S' ∧ kst D cA tt Ty env ren S' H lv st := by
  cases cd with
  | eq =>
    have hz : z = 0 := hz
    obtain ⟨S1, g1, g2⟩ := kasmS_ok h hf (by omega)
    obtain ⟨S2, g3, g4⟩ := kasmS_ok g2 (kneg_ev hf) (by omega)
    exact ⟨S2, by simp only [ktk, g1]; exact g3, g4⟩
  | ne =>
    have hz : z ≠ 0 := hz
    unfold ktk
    dsimp only
    cases h1 : kgeS S f with
    | true =>
      have := kgeS_ok h hf h1
      exact kasmS_ok h (kofs_ev hf) (by omega)
    | false =>
      cases h2 : kgeS S (kneg f) with
      | true =>
        have := kgeS_ok h (kneg_ev hf) h2
        exact kasmS_ok h (kofs_ev (kneg_ev hf)) (by omega)
      | false => exact ⟨S, rfl, h⟩
  | lt =>
    have hz : z < 0 := hz
    exact kasmS_ok h (kofs_ev (kneg_ev hf)) (by omega)
  | ge => exact kasmS_ok h hf hz
  | gt =>
    have hz : 0 < z := hz
    exact kasmS_ok h (kofs_ev hf) (by omega)
  | le =>
    have hz : z ≤ 0 := hz
    exact kasmS_ok h (kneg_ev hf) (by omega)
theorem r_if (hexec : p.tables.exec = Jvm.exec) (hb : c.code = cc) {cd : Jvm.ClassFile.Cond} {x : Int32} {off : Int} {tgt : Nat} (hdg : decode cc pc = .ok (.ifCond cd off, 3)) (ht : (pc : Int) + off = (tgt : Int))
    (kt : kholds cd x.toInt → W p l e R s m args below meth c H locs cells slots Q (F0 m tgt ls rest)) (kf : kholds (knot cd) x.toInt → W p l e R s m args below meth c H locs cells slots Q (F0 m (pc + 3) ls rest)) : W p l e R s m args below meth c H locs cells slots Q (F0 m pc ls (.int x :: rest)) := by
  have z0 : (0 : Int32).toInt = 0 := rfl
  have ez : x = 0 ↔ x.toInt = 0 := ⟨fun h => by rw [h]; rfl, fun h => Int32.toInt_inj.mp (by rw [h]; rfl)⟩
  cases cd with
  | eq => exact lv_if_eq hexec hb hdg ht (fun h => kt (ez.mp h)) (fun h => kf (fun g => h (ez.mpr g)))
  | ne => exact lv_if_ne hexec hb hdg ht (fun h => kt (fun g => h (ez.mpr g))) (fun h => kf (ez.mp h))
  | lt => exact lv_if_lt hexec hb hdg ht (fun h => kt (Int32.lt_iff_toInt_lt.mp h)) (fun h => kf (Int.not_lt.mp (fun g => h (Int32.lt_iff_toInt_lt.mpr g))))
  | ge => exact lv_if_ge hexec hb hdg ht (fun h => kt (Int32.le_iff_toInt_le.mp h)) (fun h => kf (Int.not_le.mp (fun g => h (Int32.le_iff_toInt_le.mpr g))))
  | gt => exact lv_if_gt hexec hb hdg ht (fun h => kt (Int32.lt_iff_toInt_lt.mp h)) (fun h => kf (Int.not_lt.mp (fun g => h (Int32.lt_iff_toInt_lt.mpr g))))
  | le => exact lv_if_le hexec hb hdg ht (fun h => kt (Int32.le_iff_toInt_le.mp h)) (fun h => kf (Int.not_le.mp (fun g => h (Int32.le_iff_toInt_le.mpr g))))
theorem r_icmp (hexec : p.tables.exec = Jvm.exec) (hb : c.code = cc) {cd : Jvm.ClassFile.Cond} {x y : Int32} {off : Int} {tgt : Nat} (hdg : decode cc pc = .ok (.if_icmp cd off, 3)) (ht : (pc : Int) + off = (tgt : Int))
    (kt : kholds cd (x.toInt - y.toInt) → W p l e R s m args below meth c H locs cells slots Q (F0 m tgt ls rest)) (kf : kholds (knot cd) (x.toInt - y.toInt) → W p l e R s m args below meth c H locs cells slots Q (F0 m (pc + 3) ls rest)) : W p l e R s m args below meth c H locs cells slots Q (F0 m pc ls (.int y :: .int x :: rest)) := by
  have ez : x = y ↔ x.toInt = y.toInt := Int32.toInt_inj.symm
  have lt : ∀ {a b : Int32}, a < b ↔ a.toInt < b.toInt := Int32.lt_iff_toInt_lt
  have le : ∀ {a b : Int32}, a ≤ b ↔ a.toInt ≤ b.toInt := Int32.le_iff_toInt_le
  cases cd with
  | eq => exact lv_icmp_eq hexec hb hdg ht (fun h => kt (by have := ez.mp h; show _ - _ = (0 : Int); omega)) (fun h => kf (fun g => h (ez.mpr (by have g : _ - _ = (0 : Int) := g; omega))))
  | ne => exact lv_icmp_ne hexec hb hdg ht (fun h => kt (fun g => h (ez.mpr (by have g : _ - _ = (0 : Int) := g; omega)))) (fun h => kf (by have := ez.mp h; show _ - _ = (0 : Int); omega))
  | lt => exact lv_icmp_lt hexec hb hdg ht (fun h => kt (by have := lt.mp h; show _ - _ < (0 : Int); omega)) (fun h => kf (by have := Int.not_lt.mp (fun g => h (lt.mpr g)); show (0 : Int) ≤ _ - _; omega))
  | ge => exact lv_icmp_ge hexec hb hdg ht (fun h => kt (by have := le.mp h; show (0 : Int) ≤ _ - _; omega)) (fun h => kf (by have := Int.not_le.mp (fun g => h (le.mpr g)); show _ - _ < (0 : Int); omega))
  | gt => exact lv_icmp_gt hexec hb hdg ht (fun h => kt (by have := lt.mp h; show (0 : Int) < _ - _; omega)) (fun h => kf (by have := Int.not_lt.mp (fun g => h (lt.mpr g)); show _ - _ ≤ (0 : Int); omega))
  | le => exact lv_icmp_le hexec hb hdg ht (fun h => kt (by have := le.mp h; show _ - _ ≤ (0 : Int); omega)) (fun h => kf (by have := Int.not_le.mp (fun g => h (le.mpr g)); show (0 : Int) < _ - _; omega))
theorem kcmp_holds {cd : Jvm.ClassFile.Cond} {a b : Int} (h : kholds cd (kcmp a b)) : kholds cd (a - b) := by
  unfold kcmp at h
  cases cd <;> simp only [kholds] at h ⊢ <;> (split at h) <;> (try split at h) <;> omega
theorem ktsw_ok {f : kL} {z : Int} (h : kst D cA tt Ty env ren S H lv st) (hf : kev env f = some z) : ∀ {l : List Int} {v : Int} {L : List (Nat × kS)}, ktsw pc S f v l = some L → v ≤ z → z < v + Int.ofNat l.length → ∃ (off : Int) (t : Nat) (S' : kS), l[(z - v).toNat]? = some off ∧ (pc : Int) + off = (t : Int) ∧ (t, S') ∈ L ∧ kst D cA tt Ty env ren S' H lv st
  | [], v, L, _, h1, h2 => by
    have h2 : z < v + ((0 : Nat) : Int) := h2
    omega
  | o :: t, v, L, hL, h1, h2 => by
    have h2 : z < v + (((t.length + 1 : Nat)) : Int) := h2
    unfold ktsw at hL
    cases g1 : ktgt pc o with
    | none => simp [g1] at hL
    | some tg =>
      cases g2 : ktsw pc S f (v + 1) t with
      | none => simp [g1, g2] at hL
      | some r =>
        simp only [g1, g2] at hL
        by_cases e : z = v
        · subst e
          obtain ⟨S1, a1, a2⟩ := kasmS_ok h (kofs_ev (n := -z) hf) (by omega)
          obtain ⟨S2, a3, a4⟩ := kasmS_ok a2 (kofs_ev (n := z) (kneg_ev hf)) (by omega)
          simp only [a1] at hL
          obtain rfl := Option.some.inj hL
          exact ⟨o, tg, S2, by simp, ktgt_ok g1, kopt_in a3, a4⟩
        · obtain ⟨off, t', S', b1, b2, b3, b4⟩ := ktsw_ok h hf g2 (by omega) (by
            show z < v + 1 + ((t.length : Nat) : Int)
            omega)
          refine ⟨off, t', S', ?_, b2, ?_, b4⟩
          · rw [show (z - v).toNat = (z - (v + 1)).toNat + 1 by omega]
            simpa using b1
          · split at hL
            · obtain rfl := Option.some.inj hL
              exact kopt_tl b3
            · obtain rfl := Option.some.inj hL
              exact b3
theorem kbr_ok (hexec : p.tables.exec = Jvm.exec) (hb : c.code = cc) {ins : Instr} {nL len : Nat} {L : List (Nat × kS)} (h : kst D cA tt Ty env ren S H lv st) (hlv : lv_has ls nL lv) (hd : decode cc pc = .ok (ins, len)) (hlen : (∀ a b x y, ins ≠ .tableswitch a b x y) → len = 3) (hs : kbr pc ins S = some L)
    (kk : ∀ q ∈ L, ∀ lv' st' ls', kst D cA tt Ty env ren q.2 H lv' st' → lv_has ls' nL lv' → W p l e R s m args below meth c H locs cells slots Q (F0 m q.1 ls' st')) : W p l e R s m args below meth c H locs cells slots Q (F0 m pc ls st) := by
  have hk := h.2.2.2.2.1
  unfold kbr at hs
  split at hs
  · rename_i off
    have hl := hlen (fun _ _ _ _ h => by cases h)
    subst hl
    split at hs
    · rename_i t ht
      obtain rfl := Option.some.inj hs
      exact lv_goto hexec hb hd (ktgt_ok ht) (kk _ List.mem_cons_self _ _ _ h hlv)
    · cases hs
  · rename_i cd off
    have hl := hlen (fun _ _ _ _ h => by cases h)
    subst hl
    split at hs
    · rename_i f sa t h1 ht
      obtain rfl := Option.some.inj hs
      rw [h1] at hk
      cases st with
      | nil => exact hk.elim
      | cons x sc =>
        obtain ⟨⟨n, rfl, e2⟩, hk2⟩ := hk
        have h' : kst D cA tt Ty env ren (ksloc S S.2.2.1 sa) H lv sc := ⟨h.1, h.2.1, h.2.2.1, h.2.2.2.1, hk2, h.2.2.2.2.2⟩
        refine r_if hexec hb hd (ktgt_ok ht) (fun hz => ?_) (fun hz => ?_)
        · obtain ⟨S', g1, g2⟩ := ktk_ok h' e2 hz
          exact kk _ (kopt_in g1) _ _ _ g2 hlv
        · obtain ⟨S', g1, g2⟩ := ktk_ok h' e2 hz
          exact kk _ (kopt_tl (kopt_in g1)) _ _ _ g2 hlv
    · rename_i w sa t h1 ht
      obtain rfl := Option.some.inj hs
      rw [h1] at hk
      cases st with
      | nil => exact hk.elim
      | cons x sc =>
        obtain ⟨⟨n, a, b, rfl, e2, e3, e4⟩, hk2⟩ := hk
        have h' : kst D cA tt Ty env ren (ksloc S S.2.2.1 sa) H lv sc := ⟨h.1, h.2.1, h.2.2.1, h.2.2.2.1, hk2, h.2.2.2.2.2⟩
        refine r_if hexec hb hd (ktgt_ok ht) (fun hz => ?_) (fun hz => ?_)
        · rw [e4] at hz
          obtain ⟨S', g1, g2⟩ := ktk_ok h' (ksub_ev e2 e3) (kcmp_holds hz)
          exact kk _ (kopt_in g1) _ _ _ g2 hlv
        · rw [e4] at hz
          obtain ⟨S', g1, g2⟩ := ktk_ok h' (ksub_ev e2 e3) (kcmp_holds hz)
          exact kk _ (kopt_tl (kopt_in g1)) _ _ _ g2 hlv
    · cases hs
  · rename_i cd off
    have hl := hlen (fun _ _ _ _ h => by cases h)
    subst hl
    split at hs
    · rename_i g f sa t h1 ht
      obtain rfl := Option.some.inj hs
      rw [h1] at hk
      cases st with
      | nil => exact hk.elim
      | cons x sc =>
        cases sc with
        | nil => exact hk.2.elim
        | cons y sd =>
          obtain ⟨⟨n, rfl, e2⟩, ⟨n', rfl, e3⟩, hk2⟩ := hk
          have h' : kst D cA tt Ty env ren (ksloc S S.2.2.1 sa) H lv sd := ⟨h.1, h.2.1, h.2.2.1, h.2.2.2.1, hk2, h.2.2.2.2.2⟩
          refine r_icmp hexec hb hd (ktgt_ok ht) (fun hz => ?_) (fun hz => ?_)
          · obtain ⟨S', g1, g2⟩ := ktk_ok h' (ksub_ev e3 e2) hz
            exact kk _ (kopt_in g1) _ _ _ g2 hlv
          · obtain ⟨S', g1, g2⟩ := ktk_ok h' (ksub_ev e3 e2) hz
            exact kk _ (kopt_tl (kopt_in g1)) _ _ _ g2 hlv
    · cases hs
  · rename_i dflt lo hi offs
    split at hs
    · rename_i f sa t h1 ht
      split at hs
      · rename_i h2
        split at hs
        · rename_i r hr
          obtain rfl := Option.some.inj hs
          rw [h1] at hk
          cases st with
          | nil => exact hk.elim
          | cons x sc =>
            obtain ⟨⟨n, rfl, e2⟩, hk2⟩ := hk
            have h' : kst D cA tt Ty env ren (ksloc S S.2.2.1 sa) H lv sc := ⟨h.1, h.2.1, h.2.2.1, h.2.2.2.1, hk2, h.2.2.2.2.2⟩
            by_cases c1 : n.toInt < lo
            · obtain ⟨S', g1, g2⟩ := kasmS_ok h' (ksub_ev (kcst_ev (n := lo - 1)) e2) (by omega)
              exact lv_tableOut hexec hb hd (Or.inl c1) (ktgt_ok ht) (kk _ (kopt_in g1) _ _ _ g2 hlv)
            · by_cases c2 : hi < n.toInt
              · obtain ⟨S', g1, g2⟩ := kasmS_ok h' (kofs_ev (n := -hi - 1) e2) (by omega)
                exact lv_tableOut hexec hb hd (Or.inr c2) (ktgt_ok ht) (kk _ (kopt_tl (kopt_in g1)) _ _ _ g2 hlv)
              · have h3 := kz_iff.mp h2
                obtain ⟨off, t', S', b1, b2, b3, b4⟩ := ktsw_ok (pc := pc) h' e2 hr (by omega) (by omega)
                exact lv_tableIn hexec hb hd c1 c2 (by rw [← Array.getElem?_toList]; exact b1) b2 (kk (t', S') (kopt_tl (kopt_tl b3)) _ _ _ b4 hlv)
        · cases hs
      · cases hs
    · cases hs
  · cases hs
end KBR
