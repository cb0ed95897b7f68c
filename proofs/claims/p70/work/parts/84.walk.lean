section KWALK
variable {p : Program} {l : Launch} {e : Env} {s : State} {m : MethodId} {args : Array Value} {below : List Frame} {meth : Method} {c : Code}
variable {cc : ByteArray} {cl : List vw_C} {aty : List FieldType} {nw lg : List Cond} {sk : kSk} {cA aS : Nat → Nat} {mt : List kMd} {X : State → Heap → Prop} {lo : Nat}
variable {D : va_G} {tt : List kT} {Ty : Nat → Nat → Prop} {zs : List Int} {as : List Nat} {ct : List kCt} {own : String} {ow : kOw} {nL : Nat} {rt : Option FieldType} {C : kCt} {B : kBd}
theorem kdo_ok {k : kCd → kS → Bool} {x : List Int} (hexec : p.tables.exec = Jvm.exec) (hb : c.code = cc) (hml : c.maxLocals = nL) (hown : s.vm.findClass own = some m.cls) (hts : ∀ w ∈ lg, w.before args s = true) (hrt : meth.sig.returnType = rt) (hlk : meth.locks = false) (hK : kK cl aty nw sk D cA aS s) (hXs : X s s.heap) (hR : kRest l cl aty lg nw sk mt D cA aS tt Ty lo X ct own ow C.2.2.2.2.2) (hP : C.2.1.1.length = zs.length) (hP2 : C.2.1.2.1.length = as.length) (hcode : ∀ q ∈ B.1, decode cc q.1 = .ok (q.2.1, q.2.2))
    (kk : ∀ (cur : kCd) (S : kS) (x1 : List Int) (u : List Nat) (H : Heap) (locs : List Loc) (lv : List (Nat × Value)) (st : List Value) (ls : Array Slot) (pc : Nat) (w : Instr × Nat) (t : kCd), k cur S = true → cur = (pc, w) :: t → (∀ q ∈ cur, q ∈ B.1) → (∃ y, x1 = x ++ y) → kst D cA tt Ty (zs ++ x1) (as ++ u) S H lv st → lv_has ls nL lv → kmov D cA tt Ty lo C.2.2.2.2.1 s.heap H locs → W p l e (krm C.2.2.2.2.2) s m args below meth c H locs 0 0 (MQ below (kQc D cA tt Ty lo C zs as) args s 0 0 (fun q => lo ≤ q)) (F0 m pc ls st))
    {q : Nat × Instr × Nat} {tl : kCd} {S : kS} {u : List Nat} {H : Heap} {locs : List Loc} {lv : List (Nat × Value)} {st : List Value} {ls : Array Slot} (hq : q ∈ B.1) (htl : ∀ w ∈ tl, w ∈ B.1) (h : kst D cA tt Ty (zs ++ x) (as ++ u) S H lv st) (hlv : lv_has ls nL lv) (hm : kmov D cA tt Ty lo C.2.2.2.2.1 s.heap H locs) (hs : kdo (kEof tt aty ct ow nL rt C) B k q tl S = true) :
    W p l e (krm C.2.2.2.2.2) s m args below meth c H locs 0 0 (MQ below (kQc D cA tt Ty lo C zs as) args s 0 0 (fun q => lo ≤ q)) (F0 m q.1 ls st) := by
  obtain ⟨r1, r2, r3, r4, r5, r6, r7, r8, r9, r10, r11⟩ := hR
  have go : ∀ (S' : kS) (x' : List Int) (u' : List Nat) (H' : Heap) (locs' : List Loc) (lv' : List (Nat × Value)) (st' : List Value) (ls' : Array Slot) (pc' : Nat), kgo k B.1 tl pc' S' = true → (∃ y, x' = x ++ y) → kst D cA tt Ty (zs ++ x') (as ++ u') S' H' lv' st' → lv_has ls' nL lv' → kmov D cA tt Ty lo C.2.2.2.2.1 s.heap H' locs' → W p l e (krm C.2.2.2.2.2) s m args below meth c H' locs' 0 0 (MQ below (kQc D cA tt Ty lo C zs as) args s 0 0 (fun q => lo ≤ q)) (F0 m pc' ls' st') := by
    intro S' x' u' H' locs' lv' st' ls' pc' hg g0 g1 g2 g3
    unfold kgo at hg
    split at hg
    · rename_i cur hc
      obtain ⟨w1, ins, len, t, w2⟩ := knext_ok hc htl
      exact kk cur S' x' u' H' locs' lv' st' ls' pc' (ins, len) t hg w2 w1 g0 g1 g2 g3
    · cases hg
  have hd := hcode q hq
  unfold kdo at hs
  split at hs
  · split at hs
    · rename_i hl
      have el := Nat.beq_eq.mp hl
      rw [el] at hd
      split at hs
      · rename_i S' h1
        refine kstep1_ok (S' := S') hexec hb hown hts r2 hK r10 h hlv hd h1 (fun x' u' lv' st' ls' g1 g2 => ?_)
        rw [← el]
        exact go S' (x ++ x') (u ++ u') H locs lv' st' ls' _ hs ⟨x', rfl⟩ (by rw [← List.append_assoc, ← List.append_assoc]; exact g1) g2 hm
      · cases hs
    · cases hs
  · split at hs
    · rename_i hl
      split at hs
      · rename_i L h1
        refine kbr_ok hexec hb h hlv hd (fun hno => ?_) h1 (fun w hw lv' st' ls' g1 g2 => go w.2 x u H locs lv' st' ls' w.1 (List.all_eq_true.mp hs w hw) ⟨[], by simp⟩ g1 g2 hm)
        cases ht : kistab q.2.1 with
        | true =>
          exfalso
          unfold kistab at ht
          split at ht
          · rename_i a b y z hx
            exact hno _ _ _ _ hx
          · cases ht
        | false =>
          simp only [ht] at hl
          exact Nat.beq_eq.mp hl
      · cases hs
    · cases hs
  · split at hs
    · rename_i hl
      have el := Nat.beq_eq.mp hl
      rw [el] at hd
      split at hs
      · rename_i L h1
        refine kmemi_ok hexec hb hown hts r5 r6 r3 hK r9 hm.1 h hlv hd h1 (fun S' hS x' u' st' H' L' g1 g2 g3 g4 g5 => ?_)
        rw [← el]
        exact go S' (x ++ x') (u ++ u') H' (locs ++ L') lv st' ls _ (List.all_eq_true.mp hs S' hS) ⟨x', rfl⟩ (by rw [← List.append_assoc, ← List.append_assoc]; exact g5) hlv (kmov_step hm g1 g2 g3 g4)
      · cases hs
    · cases hs
  · split at hs
    · rename_i hl
      have el := Nat.beq_eq.mp hl
      rw [el] at hd
      split at hs
      · rename_i L h1
        refine kinv_ok hexec hb hml rfl ⟨rfl, rfl⟩ hown hts r1 r4 hK r7 r8 hXs r9 hm.1 hm.2.1 r11 h hlv hd h1 (fun S' hS x' u' st' H' L' g1 g2 g3 g4 g5 => ?_)
        rw [← el]
        exact go S' (x ++ x') (u ++ u') H' (locs ++ L') lv st' ls _ (List.all_eq_true.mp hs S' hS) ⟨x', rfl⟩ (by rw [← List.append_assoc, ← List.append_assoc]; exact g5) hlv (kmov_step hm g1 g2 g3 g4)
      · cases hs
    · cases hs
  · split at hs
    · rename_i hl
      have el := Nat.beq_eq.mp hl
      rw [el] at hd
      exact kret_ok hexec hb hrt hlk r9 hP hP2 hm h hd hs
    · cases hs
theorem kcut_ok {x : List Int} {u : List Nat} {S : kS} {H : Heap} {lv : List (Nat × Value)} {st : List Value} {rb : Option kL} {T : kTm} {rk : kL} (hTy : kTyp tt Ty) (hG : kgood D cA tt Ty lo H) (hP : C.2.1.1.length = zs.length) (hP2 : C.2.1.2.1.length = as.length) (h : kst D cA tt Ty (zs ++ x) (as ++ u) S H lv st) (hc : kcut tt C.2.1 S rb T rk = true) :
    ∃ x' u' lv' z, kst D cA tt Ty (zs ++ x') (as ++ u') T.1 H lv' st ∧ (∀ w ∈ lv', w ∈ lv) ∧ kev (zs ++ x') rk = some z ∧ 0 ≤ z ∧ ∀ f r, rb = some f → kev (zs ++ x) f = some r → z < r := by
  unfold kcut at hc
  split at hc
  · rename_i q hb
    obtain ⟨e1, u1, zs', as', g1, g2, g3⟩ := kbind_ok hTy hG h (ksyms_pre hP) (krefs_pre hP2) hb
    split at hc
    · rename_i hch
      obtain ⟨lv', g4, g5⟩ := kch_ok hTy g1 g2 g3 hch
      split at hc
      · rename_i g hg
        obtain ⟨z, w1, w2⟩ := ksubst_ok g2 hg
        split at hc
        · rename_i h0
          refine ⟨zs', as', lv', z, g4, g5, w1, kgeS_ok g1 w2 h0, fun f r hf hr => ?_⟩
          subst hf
          dsimp only at hc
          have := kgeS_ok g1 (kofs_ev (ksub_ev (kev_ext hr) w2)) hc
          omega
        · cases hc
      · cases hc
    · cases hc
  · cases hc
theorem kexec_ok {rb : Option kL} (hexec : p.tables.exec = Jvm.exec) (hb : c.code = cc) (hml : c.maxLocals = nL) (hown : s.vm.findClass own = some m.cls) (hts : ∀ w ∈ lg, w.before args s = true) (hrt : meth.sig.returnType = rt) (hlk : meth.locks = false) (hK : kK cl aty nw sk D cA aS s) (hXs : X s s.heap) (hR : kRest l cl aty lg nw sk mt D cA aS tt Ty lo X ct own ow C.2.2.2.2.2) (hP : C.2.1.1.length = zs.length) (hP2 : C.2.1.2.1.length = as.length) (hcode : ∀ q ∈ B.1, decode cc q.1 = .ok (q.2.1, q.2.2)) {x0 : List Int}
    (hcut : ∀ (cu : kCut) (x : List Int) (u : List Nat) (H : Heap) (locs : List Loc) (lv : List (Nat × Value)) (st : List Value) (ls : Array Slot) (z : Int), cu ∈ B.2.2.2 → kst D cA tt Ty (zs ++ x) (as ++ u) cu.2.1.1 H lv st → lv_has ls nL lv → kmov D cA tt Ty lo C.2.2.2.2.1 s.heap H locs → kev (zs ++ x) cu.2.2 = some z → 0 ≤ z → (∀ f r, rb = some f → kev (zs ++ x0) f = some r → z < r) → W p l e (krm C.2.2.2.2.2) s m args below meth c H locs 0 0 (MQ below (kQc D cA tt Ty lo C zs as) args s 0 0 (fun q => lo ≤ q)) (F0 m cu.1 ls st)) :
    ∀ (n : Nat) (b : Bool) (cur : kCd) (S : kS) (x : List Int) (u : List Nat) (H : Heap) (locs : List Loc) (lv : List (Nat × Value)) (st : List Value) (ls : Array Slot) (pc : Nat) (w : Instr × Nat) (t : kCd), kexec (kEof tt aty ct ow nL rt C) B rb n b cur S = true → cur = (pc, w) :: t → (∀ q ∈ cur, q ∈ B.1) → (∃ y, x = x0 ++ y) → kst D cA tt Ty (zs ++ x) (as ++ u) S H lv st → lv_has ls nL lv → kmov D cA tt Ty lo C.2.2.2.2.1 s.heap H locs → W p l e (krm C.2.2.2.2.2) s m args below meth c H locs 0 0 (MQ below (kQc D cA tt Ty lo C zs as) args s 0 0 (fun q => lo ≤ q)) (F0 m pc ls st) := by
  intro n
  induction n with
  | zero => intro b cur S x u H locs lv st ls pc w t hs; cases hs
  | succ n ih =>
    intro b cur S x u H locs lv st ls pc w t hs hcur hsub hx h hlv hm
    subst hcur
    obtain ⟨y0, hx⟩ := hx
    have hq : (pc, w) ∈ B.1 := hsub _ List.mem_cons_self
    have htl : ∀ q ∈ t, q ∈ B.1 := fun q hq => hsub q (List.mem_cons_of_mem _ hq)
    have run : ∀ S' : kS, kst D cA tt Ty (zs ++ x) (as ++ u) S' H lv st → kdo (kEof tt aty ct ow nL rt C) B (kexec (kEof tt aty ct ow nL rt C) B rb n true) (pc, w) t S' = true → W p l e (krm C.2.2.2.2.2) s m args below meth c H locs 0 0 (MQ below (kQc D cA tt Ty lo C zs as) args s 0 0 (fun q => lo ≤ q)) (F0 m pc ls st) := by
      intro S' h' hs'
      refine kdo_ok (x := x) hexec hb hml hown hts hrt hlk hK hXs hR hP hP2 hcode (fun cur2 S2 x2 u2 H2 locs2 lv2 st2 ls2 pc2 w2 t2 g1 g2 g3 g4 g5 g6 g7 => ?_) hq htl h' hlv hm hs'
      obtain ⟨y, g4⟩ := g4
      exact ih true cur2 S2 x2 u2 H2 locs2 lv2 st2 ls2 pc2 w2 t2 g1 g2 g3 ⟨y0 ++ y, by rw [g4, hx, List.append_assoc]⟩ g5 g6 g7
    unfold kexec at hs
    dsimp only at hs
    split at hs
    · obtain ⟨cu, g1, g2⟩ := List.any_eq_true.mp hs
      cases hbq : Nat.beq cu.1 pc with
      | false => simp [hbq] at g2
      | true =>
        simp only [hbq] at g2
        have e := Nat.beq_eq.mp hbq
        obtain ⟨x', u', lv', z, w1, w2, w3, w4, w5⟩ := kcut_ok hR.2.2.2.2.2.2.2.2.1 hm.1 hP hP2 h g2
        rw [← e]
        exact hcut cu x' u' H locs lv' st ls z g1 w1 ⟨hlv.1, hlv.2.1, fun q hq => hlv.2.2 q (w2 q hq)⟩ hm w3 w4 (fun f r hf hr => w5 f r hf (by rw [hx, ← List.append_assoc]; exact kev_ext hr))
    · split at hs
      · rename_i w1 hw1
        split at hs
        · rename_i f hf
          obtain ⟨v, -, k, -, k2⟩ := kLoc_mem h.2.2.2.1 (klocv_mem hf)
          obtain ⟨S', k3, k4⟩ := ksplit_ok (ts := w1.2) h k2
          exact run S' k4 (List.all_eq_true.mp hs S' k3)
        · cases hs
      · exact run S h hs
end KWALK
