/-! THE CLAIM OUT OF ONE WALK OF THE LAW'S BODY. Your part is whole_start (and what it stands on); all else here is the same for every law, but numbers. -/
def R_law : String := "SilenceMatchLaw"
def lw_P (b : Addr) (xs : List Int32) (args : Array Value) (s : State) : Prop := args = #[.ref b] ∧ s.IntsAt b xs ∧ xs.length ≤ 3072 ∧ (Jvm.Cond.and given_1 narrow_1).before args s = true
def lw_Q (_ : Array Value) (s : State) (o : Outcome) (t : State) : Prop := o = .returned (some (.int 1)) ∧ Framed s o t [] 600000 7302250
def lw_Z (below : List Frame) (a : Array Value) (s : State) : State → Prop := fun t => ∃ o, t.status = .running ∧ Ended t below o ∧ lw_Q a s o t
/-- the law's own end, with 1 on the stack, nothing written that was there before, its room as the claim has it -/
theorem lw_ret {p : Program} {l : Launch} {e : Env} {s : State} {m : MethodId} {below : List Frame} {meth : Method} {c : Code} {b : Nat} (hx : p.tables.exec = Jvm.exec) (hb : c.code = code) (hr : meth.sig.returnType = ret) (hlocks : meth.locks = false) {pc : Nat} {H : Heap} {ls : Array Slot} (hdg : decode code pc = .ok (.ireturn, 1)) : W p l e room_1 s m #[Value.ref b] below meth c H [] 600000 7302250 (lw_Z below #[Value.ref b] s) (F0 m pc ls [.int 1]) := by
  intro T hT X
  obtain ⟨fs, hret, hrun, hended, hW, hframe⟩ := X.leave (v := some (.int 1)) (hlocks := hlocks) (fun h => by rw [hr] at h; cases h)
  have hmeth' : T.vm.method? m = some meth := X.method'
  refine ⟨T.setFrames fs, ?_, .returned (some (.int 1)), hrun, hended, rfl, ⟨_, rfl⟩, hW, hframe⟩
  jvm_step X.here [X.here.top, hx, hb, hdg, hmeth', hr, ret, narrow_b1]
  (try refine ⟨rfl, ?_⟩); (try refine ⟨rfl, ?_⟩)
  first | (intro acts; rw [hret _ acts rfl rfl rfl]) | rw [hret _ _ rfl rfl rfl]
  exact Steps.refl _
/-- what holds at the law's entry: the machine, the code, the tables' words (any of lw_tbl by 'hts w (by decide +kernel)'), the script of L ints xs at the cell b, what the Statement gives of the start (any of its parts by flat_of_before) -/
def lw_At (p : Program) (s : State) (m : MethodId) (meth : Method) (c : Code) (b L : Nat) (xs : Nat → Int32) : Prop :=
  p.tables.exec = Jvm.exec ∧ c.code = code ∧ meth.sig.returnType = ret ∧ c.maxLocals = 4 ∧ s.vm.findClass R_law = some m.cls ∧ (∀ w ∈ lw_tbl, w.before #[Value.ref b] s = true) ∧ va_X b L xs s s.heap ∧ b < s.heap.size ∧ meth.locks = false ∧ (Jvm.Cond.and given_1 narrow_1).before #[Value.ref b] s = true
section LEND
variable {p : Program} {l : Launch} {e : Env} {s : State} {m : MethodId} {below : List Frame} {meth : Method} {c : Code} {H : Heap} {locs : List Loc} {cells slots b L I : Nat} {ls : Array Slot} {i : Int32} {xs : Nat → Int32} {R : Room} {args : Array Value} {Q : State → Prop}
theorem l_end (hexec : p.tables.exec = Jvm.exec) (hb : c.code = code) (hrt : meth.sig.returnType = ret) (hlk : meth.locks = false) (hlocs : ∀ q ∈ locs, s.heap.size ≤ q.base) (hc : cells ≤ 600000) (hs : slots ≤ 7302250) : W p l e room_1 s m #[Value.ref b] below meth c H locs cells slots (lw_Z below #[Value.ref b] s) (F0 m 2127 ls []) := by
  refine lv_iconst (v := 1) hexec hb dl_2127 rfl ?_
  exact va_forget hlocs (W.widen hc hs (lw_ret hexec hb hrt hlk dl_2128))
/-- the loop's head -/
theorem l_head (hexec : p.tables.exec = Jvm.exec) (hb : c.code = code) (h0 : ls[0]? = some (.val (.ref b))) (h3 : ls[3]? = some (.val (.int i))) (hX : va_X b L xs s H) (hi : i.toInt = (I : Int)) (hL : L ≤ 100000) (k1 : I + 6 ≤ L → W p l e R s m args below meth c H locs cells slots Q (F0 m 33 ls [.int (xs I &&& 127)])) (k2 : L < I + 6 → W p l e R s m args below meth c H locs cells slots Q (F0 m 2127 ls [])) : W p l e R s m args below meth c H locs cells slots Q (F0 m 18 ls []) := by
  obtain ⟨scr, x1, x2, x3, x4, x5⟩ := hX
  refine lv_iload_n hexec hb dl_18 rfl h3 ?_
  refine lv_aload_n hexec hb dl_19 rfl h0 ?_
  refine W.alen (n := Int32.ofNat L) hexec hb x1 x2 (by rw [x4] <;> rfl) rfl rfl dl_20 ?_
  refine lv_bipush (v := 6) hexec hb dl_21 (by decide) ?_
  refine lv_isub hexec hb dl_23 ?_
  have ey : (Int32.ofNat L - 6).toInt = (L : Int) - 6 := by
    rw [Int32.toInt_sub, Int32.toInt_ofNat_of_lt (by omega), show (6 : Int32).toInt = 6 from rfl, k32_bm (by show (-2147483648 : Int) ≤ _; omega) (by show _ ≤ (2147483647 : Int); omega)]
  refine lv_icmp_gt (tgt := 2127) hexec hb dl_24 rfl (fun hlt => k2 ?_) (fun hn => ?_)
  · rw [Int32.lt_iff_toInt_lt, ey, hi] at hlt
    omega
  · rw [Int32.lt_iff_toInt_lt, ey, hi] at hn
    have en : i.toNatClampNeg = I := by
      show i.toInt.toNat = I
      rw [hi]; rfl
    refine lv_aload_n hexec hb dl_27 rfl h0 ?_
    refine lv_iload_n hexec hb dl_28 rfl h3 ?_
    refine W.iald (v := .int (xs I)) hexec hb x1 x2 x3 (by
      rw [x4, en, Int32.lt_iff_toInt_lt, hi]
      show ¬ ((I : Int) < 0 ∨ L ≤ I)
      omega) (by rw [en]; exact x5 _ (by omega)) rfl rfl dl_29 ?_
    refine lv_bipush (v := 127) hexec hb dl_30 (by decide) ?_
    exact lv_iand hexec hb dl_32 (k1 (by omega))
end LEND
