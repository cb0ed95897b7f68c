/-! STRING CONSTANTS: what is known of them, and the methods that ask them -/
def s_len : List Nat := [5, 4, 4, 4, 5, 4, 6, 2, 2, 4, 5, 6, 4, 4, 4, 2, 7, 5, 4, 4, 4, 5, 4, 6, 6, 4, 7, 2, 2, 4, 5, 4, 4, 2]
def s_byt : List (List Int32) := [[103, 114, 101, 101, 110], [119, 105, 100, 101], [104, 105, 103, 104], [98, 101, 108, 108], [108, 97, 117, 103, 104], [111, 100, 100, 115], [112, 108, 97, 121, 101, 114], [111, 110], [97, 116], [108, 111, 117, 100], [101, 118, 101, 114, 121], [117, 109, 112, 105, 114, 101], [100, 101, 97, 102], [119, 105, 110, 100], [102, 114, 111, 109], [116, 111], [102, 114, 105, 101, 110, 100, 115], [103, 114, 101, 101, 110], [119, 105, 100, 101], [104, 105, 103, 104], [98, 101, 108, 108], [108, 97, 117, 103, 104], [111, 100, 100, 115], [112, 108, 97, 121, 101, 114], [117, 109, 112, 105, 114, 101], [119, 105, 110, 100], [102, 114, 105, 101, 110, 100, 115], [111, 110], [97, 116], [108, 111, 117, 100], [101, 118, 101, 114, 121], [100, 101, 97, 102], [102, 114, 111, 109], [116, 111]]
def sy_coder : MethodName := ⟨"java/lang/String", "coder", "()B"⟩
def sc_coder : kCd := [(0, .getstatic 38, 3), (3, .ifCond .eq 10, 3), (6, .aload_n 0, 1), (7, .getfield 15, 3), (10, .goto 4, 3), (13, .iconst 1, 1), (14, .ireturn, 1)]
theorem sd_coder : ∀ q ∈ sc_coder, decode prog_15_method_152_code q.1 = .ok (q.2.1, q.2.2) := by decide +kernel
theorem sw_coder : Cond.code sy_coder prog_15_method_152_code 1 (some .byte) ∈ k_lg ∧ Cond.initialized sy_coder.cls ∈ k_lg := ⟨kwd_ok (p := 525) (by decide +kernel), kwd_ok (p := 110) (by decide +kernel)⟩
theorem ss_coder : Cond.instanceMethod sy_coder ∈ k_lg ∧ Cond.selects "java/lang/String" sy_coder sy_coder ∈ k_lg := ⟨kwd_ok (p := 523) (by decide +kernel), kwd_ok (p := 524) (by decide +kernel)⟩
def sy_length : MethodName := ⟨"java/lang/String", "length", "()I"⟩
def sc_length : kCd := [(0, .aload_n 0, 1), (1, .getfield 9, 3), (4, .arraylength, 1), (5, .aload_n 0, 1), (6, .invokevirtual 335, 3), (9, .ishr, 1), (10, .ireturn, 1)]
theorem sd_length : ∀ q ∈ sc_length, decode prog_15_method_54_code q.1 = .ok (q.2.1, q.2.2) := by decide +kernel
theorem sw_length : Cond.code sy_length prog_15_method_54_code 1 (some .int) ∈ k_lg ∧ Cond.initialized sy_length.cls ∈ k_lg := ⟨kwd_ok (p := 521) (by decide +kernel), kwd_ok (p := 110) (by decide +kernel)⟩
theorem ss_length : Cond.instanceMethod sy_length ∈ k_lg ∧ Cond.selects "java/lang/String" sy_length sy_length ∈ k_lg := ⟨kwd_ok (p := 519) (by decide +kernel), kwd_ok (p := 520) (by decide +kernel)⟩
def sy_isLatin1 : MethodName := ⟨"java/lang/String", "isLatin1", "()Z"⟩
def sc_isLatin1 : kCd := [(0, .getstatic 38, 3), (3, .ifCond .eq 14, 3), (6, .aload_n 0, 1), (7, .getfield 15, 3), (10, .ifCond .ne 7, 3), (13, .iconst 1, 1), (14, .goto 4, 3), (17, .iconst 0, 1), (18, .ireturn, 1)]
theorem sd_isLatin1 : ∀ q ∈ sc_isLatin1, decode prog_15_method_154_code q.1 = .ok (q.2.1, q.2.2) := by decide +kernel
theorem sw_isLatin1 : Cond.code sy_isLatin1 prog_15_method_154_code 1 (some .boolean) ∈ k_lg ∧ Cond.initialized sy_isLatin1.cls ∈ k_lg := ⟨kwd_ok (p := 535) (by decide +kernel), kwd_ok (p := 110) (by decide +kernel)⟩
theorem ss_isLatin1 : Cond.instanceMethod sy_isLatin1 ∈ k_lg ∧ Cond.selects "java/lang/String" sy_isLatin1 sy_isLatin1 ∈ k_lg := ⟨kwd_ok (p := 533) (by decide +kernel), kwd_ok (p := 534) (by decide +kernel)⟩
def sy_pre : MethodName := ⟨"jdk/internal/util/Preconditions", "checkIndex", "(IILjava/util/function/BiFunction;)I"⟩
def sc_pre : kCd := [(0, .iload_n 0, 1), (1, .ifCond .lt 8, 3), (4, .iload_n 0, 1), (5, .iload_n 1, 1), (6, .if_icmp .lt 10, 3), (9, .aload_n 2, 1), (10, .iload_n 0, 1), (11, .iload_n 1, 1), (12, .invokestatic 95, 3), (15, .athrow, 1), (16, .iload_n 0, 1), (17, .ireturn, 1)]
theorem sd_pre : ∀ q ∈ sc_pre, decode prog_19_method_11_code q.1 = .ok (q.2.1, q.2.2) := by decide +kernel
theorem sw_pre : Cond.code sy_pre prog_19_method_11_code 3 (some .int) ∈ k_lg ∧ Cond.initialized sy_pre.cls ∈ k_lg := ⟨kwd_ok (p := 546) (by decide +kernel), kwd_ok (p := 112) (by decide +kernel)⟩
theorem ss_pre : Cond.static sy_pre ∈ k_lg := kwd_ok (p := 545) (by decide +kernel)
def sy_chk : MethodName := ⟨"java/lang/String", "checkIndex", "(II)V"⟩
def sc_chk : kCd := [(0, .iload_n 0, 1), (1, .iload_n 1, 1), (2, .getstatic 1053, 3), (5, .invokestatic 1059, 3), (8, .pop, 1), (9, .return_, 1)]
theorem sd_chk : ∀ q ∈ sc_chk, decode prog_15_method_155_code q.1 = .ok (q.2.1, q.2.2) := by decide +kernel
theorem sw_chk : Cond.code sy_chk prog_15_method_155_code 2 (none) ∈ k_lg ∧ Cond.initialized sy_chk.cls ∈ k_lg := ⟨kwd_ok (p := 541) (by decide +kernel), kwd_ok (p := 110) (by decide +kernel)⟩
theorem ss_chk : Cond.static sy_chk ∈ k_lg := kwd_ok (p := 540) (by decide +kernel)
def sy_lat : MethodName := ⟨"java/lang/StringLatin1", "charAt", "([BI)C"⟩
def sc_lat : kCd := [(0, .iload_n 1, 1), (1, .aload_n 0, 1), (2, .arraylength, 1), (3, .invokestatic 9, 3), (6, .aload_n 0, 1), (7, .iload_n 1, 1), (8, .baload, 1), (9, .sipush 255, 3), (12, .iand, 1), (13, .i2c, 1), (14, .ireturn, 1)]
theorem sd_lat : ∀ q ∈ sc_lat, decode prog_16_method_2_code q.1 = .ok (q.2.1, q.2.2) := by decide +kernel
theorem sw_lat : Cond.code sy_lat prog_16_method_2_code 2 (some .char) ∈ k_lg ∧ Cond.initialized sy_lat.cls ∈ k_lg := ⟨kwd_ok (p := 538) (by decide +kernel), kwd_ok (p := 111) (by decide +kernel)⟩
theorem ss_lat : Cond.static sy_lat ∈ k_lg := kwd_ok (p := 537) (by decide +kernel)
def sy_charAt : MethodName := ⟨"java/lang/String", "charAt", "(I)C"⟩
def sc_charAt : kCd := [(0, .aload_n 0, 1), (1, .invokevirtual 492, 3), (4, .ifCond .eq 12, 3), (7, .aload_n 0, 1), (8, .getfield 9, 3), (11, .iload_n 1, 1), (12, .invokestatic 495, 3), (15, .ireturn, 1), (16, .aload_n 0, 1), (17, .getfield 9, 3), (20, .iload_n 1, 1), (21, .invokestatic 498, 3), (24, .ireturn, 1)]
theorem sd_charAt : ∀ q ∈ sc_charAt, decode prog_15_method_56_code q.1 = .ok (q.2.1, q.2.2) := by decide +kernel
theorem sw_charAt : Cond.code sy_charAt prog_15_method_56_code 2 (some .char) ∈ k_lg ∧ Cond.initialized sy_charAt.cls ∈ k_lg := ⟨kwd_ok (p := 531) (by decide +kernel), kwd_ok (p := 110) (by decide +kernel)⟩
theorem ss_charAt : Cond.instanceMethod sy_charAt ∈ k_lg ∧ Cond.selects "java/lang/String" sy_charAt sy_charAt ∈ k_lg := ⟨kwd_ok (p := 529) (by decide +kernel), kwd_ok (p := 530) (by decide +kernel)⟩
theorem sl_java_lang_String_335 : Cond.methodLink "java/lang/String" 335 sy_coder ∈ k_lg := kwd_ok (p := 522) (by decide +kernel)
theorem sl_java_lang_String_492 : Cond.methodLink "java/lang/String" 492 sy_isLatin1 ∈ k_lg := kwd_ok (p := 532) (by decide +kernel)
theorem sl_java_lang_String_495 : Cond.methodLink "java/lang/String" 495 sy_lat ∈ k_lg := kwd_ok (p := 536) (by decide +kernel)
theorem sl_java_lang_StringLatin1_9 : Cond.methodLink "java/lang/StringLatin1" 9 sy_chk ∈ k_lg := kwd_ok (p := 539) (by decide +kernel)
theorem sl_java_lang_String_1059 : Cond.methodLink "java/lang/String" 1059 sy_pre ∈ k_lg := kwd_ok (p := 544) (by decide +kernel)
theorem sl_SilenceMatch_Reader_177 : Cond.methodLink "SilenceMatch$Reader" 177 sy_length ∈ k_lg := kwd_ok (p := 518) (by decide +kernel)
theorem sl_SilenceMatch_Reader_188 : Cond.methodLink "SilenceMatch$Reader" 188 sy_charAt ∈ k_lg := kwd_ok (p := 528) (by decide +kernel)
theorem sl_SilenceMatchModel_131 : Cond.methodLink "SilenceMatchModel" 131 sy_length ∈ k_lg := kwd_ok (p := 1403) (by decide +kernel)
theorem sl_SilenceMatchModel_136 : Cond.methodLink "SilenceMatchModel" 136 sy_charAt ∈ k_lg := kwd_ok (p := 1404) (by decide +kernel)
theorem sf_38 : Cond.fieldLink "java/lang/String" 38 "java/lang/String" "COMPACT_STRINGS" "Z" ∈ k_lg := kwd_ok (p := 526) (by decide +kernel)
theorem sf_1053 : Cond.fieldLink "java/lang/String" 1053 "jdk/internal/util/Preconditions" "SIOOBE_FORMATTER" "Ljava/util/function/BiFunction;" ∈ k_lg := kwd_ok (p := 542) (by decide +kernel)
theorem sf_9 : Cond.fieldLink "java/lang/String" 9 "java/lang/String" "value" "[B" ∈ k_lg := kwd_ok (p := 1935) (by decide +kernel)
theorem sf_15 : Cond.fieldLink "java/lang/String" 15 "java/lang/String" "coder" "B" ∈ k_lg := kwd_ok (p := 1936) (by decide +kernel)
section HSTR
variable {l : Launch} {aS adV : Nat → Nat} {lo : Nat}
/-- the strings, and two static fields -/
def sX (aS adV : Nat → Nat) (lo : Nat) (U : State) (H : Heap) : Prop :=
  (∀ i : Nat, i < 34 → va_O "java/lang/String" (aS i) (fun q => lo ≤ q) U H ∧ va_OF "java/lang/String" "coder" "B" (.int 0) (aS i) (fun q => lo ≤ q) U H ∧ va_OF "java/lang/String" "value" "[B" (.ref (adV i)) (aS i) (fun q => lo ≤ q) U H ∧ va_T .byte (adV i) (s_len.getD i 0) (fun j => .int ((s_byt.getD i []).getD j 0)) (fun q => lo ≤ q) U H) ∧ va_Z "java/lang/String" "COMPACT_STRINGS" "Z" (.int 1) (fun q => lo ≤ q) U H ∧ ∃ v : Value, v.category = 1 ∧ (v = .null ∨ ∃ a, v = .ref a) ∧ va_Z "jdk/internal/util/Preconditions" "SIOOBE_FORMATTER" "Ljava/util/function/BiFunction;" v (fun q => lo ≤ q) U H
theorem sX_ok : kXok (sX aS adV lo) lo := by
  refine ⟨fun s U H H' hW h hq => ?_, fun U H g mk a h => ?_⟩
  · have hk : ∀ a : Nat, a < H.size → ¬ lo ≤ a → H'[a]? = H[a]? := fun a _ ha => hq a (by omega)
    obtain ⟨h1, h2, v, h3, h4, h5⟩ := h
    exact ⟨fun i hi => ⟨(va_O.moved hW.alike (h1 i hi).1).kept hk, (va_OF.moved hW.alike (h1 i hi).2.1).kept hk, (va_OF.moved hW.alike (h1 i hi).2.2.1).kept hk, (va_T.moved hW.alike (h1 i hi).2.2.2).kept hk⟩, (va_Z.moved hW.alike h2).kept hk, v, h3, h4, (va_Z.moved hW.alike h5).kept hk⟩
  · have ha : U.vm.Alike (U.calling g mk a).vm := Vm.Alike.refl U.vm
    obtain ⟨h1, h2, v, h3, h4, h5⟩ := h
    exact ⟨fun i hi => ⟨va_O.moved ha (h1 i hi).1, va_OF.moved ha (h1 i hi).2.1, va_OF.moved ha (h1 i hi).2.2.1, va_T.moved ha (h1 i hi).2.2.2⟩, va_Z.moved ha h2, v, h3, h4, va_Z.moved ha h5⟩
def sMet (l : Launch) (aS adV : Nat → Nat) (lo : Nat) (y : MethodName) (b : ByteArray) (mL : Nat) (r : Option FieldType) (d : Nat) (vs : List Value) (v : Option Value) : Prop :=
  Met l y (Cond.code y b mL r :: k_lg) (krm d) (fun a U => a = vs.toArray ∧ sX aS adV lo U U.heap) (fun _ s oc t => oc = .returned v ∧ t.heap = s.heap) 0 0 (fun _ => False)
section HSC
variable {p : Program} {e : Env} {R : Room} {s : State} {m : MethodId} {args : Array Value} {below : List Frame} {meth : Method} {c : Code} {H : Heap} {locs : List Loc} {Q : State → Prop} {cc : ByteArray} {pc : Nat} {ls : Array Slot} {rest : List Value}
theorem s_blind {vs : List Value} : FrameBlind (fun (a : Array Value) (U : State) => a = vs.toArray ∧ sX aS adV lo U U.heap) := fun a U g mk h => ⟨h.1, sX_ok.2 _ _ g mk a h.2⟩
theorem s_nil {L : List Loc} (h : ∀ q ∈ L, (fun _ => False : Addr → Prop) q.base) : L = [] := by
  cases L with
  | nil => rfl
  | cons a t => exact (h a List.mem_cons_self).elim
/-- a call of a static one -/
theorem s_callS {own : String} {y : MethodName} {b : ByteArray} {mL nL idx n d' : Nat} {r : Option FieldType} {As : List Value} {v : Option Value} (hexec : p.tables.exec = Jvm.exec) (hb : c.code = cc) (hml : c.maxLocals = nL) (hown : s.vm.findClass own = some m.cls) (hts : ∀ w ∈ k_lg, w.before args s = true) (hXs : sX aS adV lo s s.heap) (hfq : ∀ q, q < lo → H[q]? = s.heap[q]?) (hM : sMet l aS adV lo y b mL r d' As v) (hw : Cond.code y b mL r ∈ k_lg ∧ Cond.initialized y.cls ∈ k_lg) (hst : Cond.static y ∈ k_lg) (hlk : Cond.methodLink own idx y ∈ k_lg) (hne : y.cls ≠ "java/lang/invoke/MethodHandle" ∧ y.cls ≠ "java/lang/invoke/VarHandle") (hpar : (parseMethodDescriptor y.desc).map (fun d => d.parameters.length) = some n) (hn : As.length = n) (hfr : d' + 1 ≤ R.frames) (hlo : 8 + (mL + 11) + 40 * d' ≤ R.locals) (hls : ls.size = nL) (hr : (rest.map fun v => v.category).sum ≤ 8) (hd : decode cc pc = .ok (.invokestatic idx, 3))
    (kk : W p l e R s m args below meth c H locs 0 0 Q (F0 m (pc + 3) ls (v.toList ++ rest))) : W p l e R s m args below meth c H locs 0 0 Q (F0 m pc ls (As.reverse ++ rest)) := by
  have hws : ∀ w ∈ (Cond.code y b mL r :: k_lg), ∀ (a' : Array Value) (U : State), s.WarmedH U.vm → w.before a' U = true := pay_in hts (fun w hw2 => by
    rcases List.mem_cons.mp hw2 with rfl | hw2
    · exact ⟨hw.1, good_of_word (k_lg_good _ hw.1)⟩
    · exact ⟨hw2, good_of_word (k_lg_good _ hw2)⟩)
  have hrun := va_runS (nL := nL) (n := n) (R := R) (cells := 0) (slots := 0) (locs := locs) (below := below) (e := e) (meth := meth) (H := H) (As := As) (rest := rest) (g := F0 m pc ls (As.reverse ++ rest)) ⟨hexec, hb, hml, hown, hts⟩ hM ⟨⟨rfl, rfl, hfr, hlo, hws, List.mem_cons_self, hts _ hw.1, hts _ hw.2, hne, fun sig hsig => by rw [hsig] at hpar; exact (Option.some.inj hpar).symm, hts _ hlk⟩, hts _ hst⟩ ⟨s_blind, fun U hU hW => ⟨rfl, by rw [hU]; exact sX_ok.1 s U s.heap H hW hXs hfq⟩⟩ rfl hn hls rfl (by show 2 * 0 + _ ≤ 8; omega) hd ⟨by omega, by omega⟩
  refine k_then hrun (fun v' s0 t L hs0 hq hL => ?_)
  obtain ⟨e1, e2⟩ := hq
  cases e1
  rw [s_nil hL, List.append_nil, e2, hs0]
  exact kk
/-- a call of a string's own -/
theorem s_callV {own : String} {y : MethodName} {b : ByteArray} {mL nL idx n d' i : Nat} {r : Option FieldType} {As : List Value} {v : Option Value} (hi : i < 34) (hexec : p.tables.exec = Jvm.exec) (hb : c.code = cc) (hml : c.maxLocals = nL) (hown : s.vm.findClass own = some m.cls) (hts : ∀ w ∈ k_lg, w.before args s = true) (hXs : sX aS adV lo s s.heap) (hfq : ∀ q, q < lo → H[q]? = s.heap[q]?) (hM : sMet l aS adV lo y b mL r d' (.ref (aS i) :: As) v) (hw : Cond.code y b mL r ∈ k_lg ∧ Cond.initialized y.cls ∈ k_lg) (hse : Cond.instanceMethod y ∈ k_lg ∧ Cond.selects "java/lang/String" y y ∈ k_lg) (hlk : Cond.methodLink own idx y ∈ k_lg) (hne : y.cls ≠ "java/lang/invoke/MethodHandle" ∧ y.cls ≠ "java/lang/invoke/VarHandle") (hpar : (parseMethodDescriptor y.desc).map (fun d => d.parameters.length) = some n) (hn : As.length = n) (hfr : d' + 1 ≤ R.frames) (hlo : 8 + (mL + 11) + 40 * d' ≤ R.locals) (hls : ls.size = nL) (hr : (rest.map fun v => v.category).sum ≤ 8) (hd : decode cc pc = .ok (.invokevirtual idx, 3))
    (kk : W p l e R s m args below meth c H locs 0 0 Q (F0 m (pc + 3) ls (v.toList ++ rest))) : W p l e R s m args below meth c H locs 0 0 Q (F0 m pc ls (As.reverse ++ .ref (aS i) :: rest)) := by
  have hws : ∀ w ∈ (Cond.code y b mL r :: k_lg), ∀ (a' : Array Value) (U : State), s.WarmedH U.vm → w.before a' U = true := pay_in hts (fun w hw2 => by
    rcases List.mem_cons.mp hw2 with rfl | hw2
    · exact ⟨hw.1, good_of_word (k_lg_good _ hw.1)⟩
    · exact ⟨hw2, good_of_word (k_lg_good _ hw2)⟩)
  obtain ⟨cell, q1, q2, q3, q4⟩ := (hXs.1 i hi).1
  have q1 : H[aS i]? = some cell := (hfq _ (by omega)).trans q1
  have hrun := va_runV (nL := nL) (n := n) (R := R) (cells := 0) (slots := 0) (locs := locs) (below := below) (e := e) (meth := meth) (H := H) (b := aS i) (As := As) (rest := rest) (C := "java/lang/String") (g := F0 m pc ls (As.reverse ++ .ref (aS i) :: rest)) ⟨hexec, hb, hml, hown, hts⟩ hM ⟨⟨rfl, rfl, hfr, hlo, hws, List.mem_cons_self, hts _ hw.1, hts _ hw.2, hne, fun sig hsig => by rw [hsig] at hpar; exact (Option.some.inj hpar).symm, hts _ hlk⟩, hts _ hse.1, hts _ hse.2⟩ ⟨s_blind, ⟨cell, q1, q2, q3⟩, fun U hU hW => ⟨rfl, by rw [hU]; exact sX_ok.1 s U s.heap H hW hXs hfq⟩⟩ rfl hn hls rfl (by show 2 * 0 + _ ≤ 8; omega) hd ⟨by omega, by omega⟩
  refine k_then hrun (fun v' s0 t L hs0 hq hL => ?_)
  obtain ⟨e1, e2⟩ := hq
  cases e1
  rw [s_nil hL, List.append_nil, e2, hs0]
  exact kk
theorem s_S : va_S (fun q => lo ≤ q) s.heap s.heap [] := ⟨Nat.le_refl _, fun _ _ _ => rfl, fun q hq => by cases hq⟩
end HSC
theorem s_lt : ∀ i, i < 34 → s_len.getD i 0 < 8 ∧ s_len.getD i 0 = (s_byt.getD i []).length ∧ ∀ j, j < 8 → 0 ≤ ((s_byt.getD i []).getD j 0).toInt ∧ ((s_byt.getD i []).getD j 0).toInt < 128 := by decide +kernel
theorem s_bits : ∀ k : Nat, k < 128 → ((Int32.ofNat k &&& 255).toUInt32 % 65536).toInt32 = Int32.ofNat k ∧ narrow .char (.int (Int32.ofNat k)) = .int (Int32.ofNat k) := by decide +kernel
theorem s_char {x : Int32} (h0 : 0 ≤ x.toInt) (h1 : x.toInt < 128) : ((x &&& 255).toUInt32 % 65536).toInt32 = x ∧ narrow .char (.int x) = .int x := by
  have e : x = Int32.ofNat x.toInt.toNat := by
    apply Int32.toInt_inj.mp
    rw [Int32.toInt_ofNat_of_lt (by omega)]
    omega
  have := s_bits x.toInt.toNat (by omega)
  rw [← e] at this
  exact this

set_option maxHeartbeats 4000000 in
theorem sm_coder {i : Nat} (hi : i < 34) : sMet l aS adV lo sy_coder prog_15_method_152_code 1 (some .byte) 0 [.ref (aS i)] (some (.int 0)) := by
  refine Met.ofWF (cc := prog_15_method_152_code) (maxL := 1) (ret := (some .byte)) (by decide +kernel) rfl ?_
  intro p e s m args below meth c s₁ Bd hml hv
  obtain ⟨rfl, hXs⟩ := hv
  have hexec := Bd.exec
  have hb := Bd.bytes
  have hts : ∀ w ∈ k_lg, w.before ([.ref (aS i)] : List Value).toArray s = true := fun w hw => atoms_spec (ws := Cond.code sy_coder prog_15_method_152_code 1 (some .byte) :: k_lg) Bd.pre w (List.mem_cons_of_mem _ hw)
  have hown : s.vm.findClass "java/lang/String" = some m.cls := findClass_of_methodNamed Bd.named
  have hlv := lv_entry ([.ref (aS i)] : List Value) (n := 1) (show 1 ≤ 1 by decide)
  show W p l e (krm 0) s m ([.ref (aS i)] : List Value).toArray below meth c s.heap [] 0 0 _ (entryFrame m ([.ref (aS i)] : List Value).toArray 1)
  rw [lg_entry_eq]
  generalize ((lg_sl ([.ref (aS i)] : List Value) ++ List.replicate (1 - (lg_sl ([.ref (aS i)] : List Value)).length) Slot.unset).toArray) = ls at hlv ⊢
  have dc := sd_coder
  have d0 := dc _ (List.mem_of_getElem? (i := 0) rfl)
  have d3 := dc _ (List.mem_of_getElem? (i := 1) rfl)
  have d6 := dc _ (List.mem_of_getElem? (i := 2) rfl)
  have d7 := dc _ (List.mem_of_getElem? (i := 3) rfl)
  have d10 := dc _ (List.mem_of_getElem? (i := 4) rfl)
  have d13 := dc _ (List.mem_of_getElem? (i := 5) rfl)
  have d14 := dc _ (List.mem_of_getElem? (i := 6) rfl)
  dsimp only at d0 d3 d6 d7 d10 d13 d14
  refine va_gets hexec hb hXs.2.1 s_S hown (hts _ sf_38) (fun _ h => h) d0 ?_
  refine lv_if_eq (tgt := 13) hexec hb d3 rfl (fun h => absurd h (by decide)) (fun _ => ?_)
  refine lv_aload_n hexec hb d6 rfl (lv_at hlv 0 rfl) ?_
  refine vk_getf hexec hb (hXs.1 i hi).2.1 s_S hown (hts _ sf_15) (fun _ h => h) d7 ?_
  refine lv_goto (tgt := 14) hexec hb d10 rfl ?_
  exact W.zret hexec hb Bd.returns rfl (fun t ht _ => ⟨rfl, ht⟩) (fun q hq => by cases hq) d14 Bd.notSynchronized
theorem s_shr {n : Nat} (h : n < 8) : Int32.ofNat n >>> ((0 : Int32) &&& 31) = Int32.ofNat n := by
  have : ∀ n : Nat, n < 8 → Int32.ofNat n >>> ((0 : Int32) &&& 31) = Int32.ofNat n := by decide +kernel
  exact this n h
set_option maxHeartbeats 4000000 in
theorem sm_length {i : Nat} (hi : i < 34) : sMet l aS adV lo sy_length prog_15_method_54_code 1 (some .int) 1 [.ref (aS i)] (some (.int (Int32.ofNat (s_len.getD i 0)))) := by
  refine Met.ofWF (cc := prog_15_method_54_code) (maxL := 1) (ret := (some .int)) (by decide +kernel) rfl ?_
  intro p e s m args below meth c s₁ Bd hml hv
  obtain ⟨rfl, hXs⟩ := hv
  have hexec := Bd.exec
  have hb := Bd.bytes
  have hts : ∀ w ∈ k_lg, w.before ([.ref (aS i)] : List Value).toArray s = true := fun w hw => atoms_spec (ws := Cond.code sy_length prog_15_method_54_code 1 (some .int) :: k_lg) Bd.pre w (List.mem_cons_of_mem _ hw)
  have hown : s.vm.findClass "java/lang/String" = some m.cls := findClass_of_methodNamed Bd.named
  have hlv := lv_entry ([.ref (aS i)] : List Value) (n := 1) (show 1 ≤ 1 by decide)
  show W p l e (krm 1) s m ([.ref (aS i)] : List Value).toArray below meth c s.heap [] 0 0 _ (entryFrame m ([.ref (aS i)] : List Value).toArray 1)
  rw [lg_entry_eq]
  generalize ((lg_sl ([.ref (aS i)] : List Value) ++ List.replicate (1 - (lg_sl ([.ref (aS i)] : List Value)).length) Slot.unset).toArray) = ls at hlv ⊢
  have dc := sd_length
  have d0 := dc _ (List.mem_of_getElem? (i := 0) rfl)
  have d1 := dc _ (List.mem_of_getElem? (i := 1) rfl)
  have d4 := dc _ (List.mem_of_getElem? (i := 2) rfl)
  have d5 := dc _ (List.mem_of_getElem? (i := 3) rfl)
  have d6 := dc _ (List.mem_of_getElem? (i := 4) rfl)
  have d9 := dc _ (List.mem_of_getElem? (i := 5) rfl)
  have d10 := dc _ (List.mem_of_getElem? (i := 6) rfl)
  dsimp only at d0 d1 d4 d5 d6 d9 d10
  refine lv_aload_n hexec hb d0 rfl (lv_at hlv 0 rfl) ?_
  refine vk_getf hexec hb (hXs.1 i hi).2.2.1 s_S hown (hts _ sf_9) (fun _ h => h) d1 ?_
  refine va_tlen hexec hb (hXs.1 i hi).2.2.2 s_S rfl d4 ?_
  refine lv_aload_n hexec hb d5 rfl (lv_at hlv 0 rfl) ?_
  refine s_callV (As := []) (n := 0) (d' := 0) hi hexec hb hml hown hts hXs (fun _ _ => rfl) (sm_coder hi) sw_coder ss_coder sl_java_lang_String_335 (by decide) (by decide +kernel) rfl (Nat.le_refl 1) (by decide) hlv.1 (by show 1 + 0 ≤ 8; decide) d6 ?_
  refine lv_ishr hexec hb d9 ?_
  rw [s_shr (s_lt i hi).1]
  exact W.zret hexec hb Bd.returns rfl (fun t ht _ => ⟨rfl, ht⟩) (fun q hq => by cases hq) d10 Bd.notSynchronized
set_option maxHeartbeats 4000000 in
theorem sm_isLatin1 {i : Nat} (hi : i < 34) : sMet l aS adV lo sy_isLatin1 prog_15_method_154_code 1 (some .boolean) 0 [.ref (aS i)] (some (.int 1)) := by
  refine Met.ofWF (cc := prog_15_method_154_code) (maxL := 1) (ret := (some .boolean)) (by decide +kernel) rfl ?_
  intro p e s m args below meth c s₁ Bd hml hv
  obtain ⟨rfl, hXs⟩ := hv
  have hexec := Bd.exec
  have hb := Bd.bytes
  have hts : ∀ w ∈ k_lg, w.before ([.ref (aS i)] : List Value).toArray s = true := fun w hw => atoms_spec (ws := Cond.code sy_isLatin1 prog_15_method_154_code 1 (some .boolean) :: k_lg) Bd.pre w (List.mem_cons_of_mem _ hw)
  have hown : s.vm.findClass "java/lang/String" = some m.cls := findClass_of_methodNamed Bd.named
  have hlv := lv_entry ([.ref (aS i)] : List Value) (n := 1) (show 1 ≤ 1 by decide)
  show W p l e (krm 0) s m ([.ref (aS i)] : List Value).toArray below meth c s.heap [] 0 0 _ (entryFrame m ([.ref (aS i)] : List Value).toArray 1)
  rw [lg_entry_eq]
  generalize ((lg_sl ([.ref (aS i)] : List Value) ++ List.replicate (1 - (lg_sl ([.ref (aS i)] : List Value)).length) Slot.unset).toArray) = ls at hlv ⊢
  have dc := sd_isLatin1
  have d0 := dc _ (List.mem_of_getElem? (i := 0) rfl)
  have d3 := dc _ (List.mem_of_getElem? (i := 1) rfl)
  have d6 := dc _ (List.mem_of_getElem? (i := 2) rfl)
  have d7 := dc _ (List.mem_of_getElem? (i := 3) rfl)
  have d10 := dc _ (List.mem_of_getElem? (i := 4) rfl)
  have d13 := dc _ (List.mem_of_getElem? (i := 5) rfl)
  have d14 := dc _ (List.mem_of_getElem? (i := 6) rfl)
  have d17 := dc _ (List.mem_of_getElem? (i := 7) rfl)
  have d18 := dc _ (List.mem_of_getElem? (i := 8) rfl)
  dsimp only at d0 d3 d6 d7 d10 d13 d14 d17 d18
  refine va_gets hexec hb hXs.2.1 s_S hown (hts _ sf_38) (fun _ h => h) d0 ?_
  refine lv_if_eq (tgt := 17) hexec hb d3 rfl (fun h => absurd h (by decide)) (fun _ => ?_)
  refine lv_aload_n hexec hb d6 rfl (lv_at hlv 0 rfl) ?_
  refine vk_getf hexec hb (hXs.1 i hi).2.1 s_S hown (hts _ sf_15) (fun _ h => h) d7 ?_
  refine lv_if_ne (tgt := 17) hexec hb d10 rfl (fun h => absurd rfl h) (fun _ => ?_)
  refine lv_iconst (v := 1) hexec hb d13 rfl ?_
  refine lv_goto (tgt := 18) hexec hb d14 rfl ?_
  exact W.zret hexec hb Bd.returns rfl (fun t ht _ => ⟨rfl, ht⟩) (fun q hq => by cases hq) d18 Bd.notSynchronized
theorem s_sl3 {k n : Int32} {v : Value} (h : v.category = 1) : (lg_sl [.int k, .int n, v]).length ≤ 3 := by
  have e : lg_sl [.int k, .int n, v] = [.val (.int k), .val (.int n)] ++ (if v.category = 2 then [.val v, .second] else [.val v]) := by simp [lg_sl]; rfl
  rw [e, h]
  exact Nat.le_refl 3
set_option maxHeartbeats 4000000 in
theorem sm_pre {k n : Int32} {v : Value} (hv1 : v.category = 1) (h0 : 0 ≤ k.toInt) (h1 : k.toInt < n.toInt) : sMet l aS adV lo sy_pre prog_19_method_11_code 3 (some .int) 0 [.int k, .int n, v] (some (.int k)) := by
  refine Met.ofWF (cc := prog_19_method_11_code) (maxL := 3) (ret := (some .int)) (by decide +kernel) rfl ?_
  intro p e s m args below meth c s₁ Bd hml hv
  obtain ⟨rfl, hXs⟩ := hv
  have hexec := Bd.exec
  have hb := Bd.bytes
  have hts : ∀ w ∈ k_lg, w.before ([.int k, .int n, v] : List Value).toArray s = true := fun w hw => atoms_spec (ws := Cond.code sy_pre prog_19_method_11_code 3 (some .int) :: k_lg) Bd.pre w (List.mem_cons_of_mem _ hw)
  have hown : s.vm.findClass "jdk/internal/util/Preconditions" = some m.cls := findClass_of_methodNamed Bd.named
  have hlv := lv_entry ([.int k, .int n, v] : List Value) (n := 3) (s_sl3 hv1)
  show W p l e (krm 0) s m ([.int k, .int n, v] : List Value).toArray below meth c s.heap [] 0 0 _ (entryFrame m ([.int k, .int n, v] : List Value).toArray 3)
  rw [lg_entry_eq]
  generalize ((lg_sl ([.int k, .int n, v] : List Value) ++ List.replicate (3 - (lg_sl ([.int k, .int n, v] : List Value)).length) Slot.unset).toArray) = ls at hlv ⊢
  have dc := sd_pre
  have d0 := dc _ (List.mem_of_getElem? (i := 0) rfl)
  have d1 := dc _ (List.mem_of_getElem? (i := 1) rfl)
  have d4 := dc _ (List.mem_of_getElem? (i := 2) rfl)
  have d5 := dc _ (List.mem_of_getElem? (i := 3) rfl)
  have d6 := dc _ (List.mem_of_getElem? (i := 4) rfl)
  have d9 := dc _ (List.mem_of_getElem? (i := 5) rfl)
  have d10 := dc _ (List.mem_of_getElem? (i := 6) rfl)
  have d11 := dc _ (List.mem_of_getElem? (i := 7) rfl)
  have d12 := dc _ (List.mem_of_getElem? (i := 8) rfl)
  have d15 := dc _ (List.mem_of_getElem? (i := 9) rfl)
  have d16 := dc _ (List.mem_of_getElem? (i := 10) rfl)
  have d17 := dc _ (List.mem_of_getElem? (i := 11) rfl)
  dsimp only at d0 d1 d4 d5 d6 d9 d10 d11 d12 d15 d16 d17
  have hl2 : lv_has ls 3 [(0, .int k), (1, .int n)] := ⟨hlv.1, hlv.2.1, fun q hq => hlv.2.2 q (by
    rcases List.mem_cons.mp hq with rfl | hq
    · exact List.mem_cons_self
    · rcases List.mem_cons.mp hq with rfl | hq
      · exact List.mem_cons_of_mem _ List.mem_cons_self
      · cases hq)⟩
  refine lv_iload_n hexec hb d0 rfl (lv_at hl2 0 rfl) ?_
  refine lv_if_lt (tgt := 9) hexec hb d1 rfl (fun h => absurd (Int32.lt_iff_toInt_lt.mp h) (by show ¬ (_ < (0 : Int)); omega)) (fun _ => ?_)
  refine lv_iload_n hexec hb d4 rfl (lv_at hl2 0 rfl) ?_
  refine lv_iload_n hexec hb d5 rfl (lv_at hl2 1 rfl) ?_
  refine lv_icmp_lt (tgt := 16) hexec hb d6 rfl (fun _ => ?_) (fun h => absurd (Int32.lt_iff_toInt_lt.mpr h1) h)
  refine lv_iload_n hexec hb d16 rfl (lv_at hl2 0 rfl) ?_
  exact W.zret hexec hb Bd.returns rfl (fun t ht _ => ⟨rfl, ht⟩) (fun q hq => by cases hq) d17 Bd.notSynchronized
set_option maxHeartbeats 4000000 in
theorem sm_chk {k n : Int32} (h0 : 0 ≤ k.toInt) (h1 : k.toInt < n.toInt) : sMet l aS adV lo sy_chk prog_15_method_155_code 2 none 1 [.int k, .int n] none := by
  refine Met.ofWF (cc := prog_15_method_155_code) (maxL := 2) (ret := none) (by decide +kernel) rfl ?_
  intro p e s m args below meth c s₁ Bd hml hv
  obtain ⟨rfl, hXs⟩ := hv
  have hexec := Bd.exec
  have hb := Bd.bytes
  have hts : ∀ w ∈ k_lg, w.before ([.int k, .int n] : List Value).toArray s = true := fun w hw => atoms_spec (ws := Cond.code sy_chk prog_15_method_155_code 2 none :: k_lg) Bd.pre w (List.mem_cons_of_mem _ hw)
  have hown : s.vm.findClass "java/lang/String" = some m.cls := findClass_of_methodNamed Bd.named
  have hlv := lv_entry ([.int k, .int n] : List Value) (n := 2) (show 2 ≤ 2 by decide)
  show W p l e (krm 1) s m ([.int k, .int n] : List Value).toArray below meth c s.heap [] 0 0 _ (entryFrame m ([.int k, .int n] : List Value).toArray 2)
  rw [lg_entry_eq]
  generalize ((lg_sl ([.int k, .int n] : List Value) ++ List.replicate (2 - (lg_sl ([.int k, .int n] : List Value)).length) Slot.unset).toArray) = ls at hlv ⊢
  have dc := sd_chk
  have d0 := dc _ (List.mem_of_getElem? (i := 0) rfl)
  have d1 := dc _ (List.mem_of_getElem? (i := 1) rfl)
  have d2 := dc _ (List.mem_of_getElem? (i := 2) rfl)
  have d5 := dc _ (List.mem_of_getElem? (i := 3) rfl)
  have d8 := dc _ (List.mem_of_getElem? (i := 4) rfl)
  have d9 := dc _ (List.mem_of_getElem? (i := 5) rfl)
  dsimp only at d0 d1 d2 d5 d8 d9
  obtain ⟨v, v1, v2, v3⟩ := hXs.2.2
  refine lv_iload_n hexec hb d0 rfl (lv_at hlv 0 rfl) ?_
  refine lv_iload_n hexec hb d1 rfl (lv_at hlv 1 rfl) ?_
  refine va_gets hexec hb v3 s_S hown (hts _ sf_1053) (fun _ h => h) d2 ?_
  refine s_callS (As := [.int k, .int n, v]) (n := 3) (d' := 0) (rest := []) hexec hb hml hown hts hXs (fun _ _ => rfl) (sm_pre v1 h0 h1) sw_pre ss_pre sl_java_lang_String_1059 (by decide) (by decide +kernel) rfl (Nat.le_refl 1) (by decide) hlv.1 (by decide) d5 ?_
  refine lv_pop hexec hb d8 rfl ?_
  exact W.vret hexec hb Bd.returns (fun t ht _ => ⟨rfl, ht⟩) (fun q hq => by cases hq) d9 Bd.notSynchronized
set_option maxHeartbeats 4000000 in
theorem sm_lat {i : Nat} {k : Int32} (hi : i < 34) (h0 : 0 ≤ k.toInt) (h1 : k.toInt < (s_len.getD i 0 : Int)) : sMet l aS adV lo sy_lat prog_16_method_2_code 2 (some .char) 2 [.ref (adV i), .int k] (some (.int ((s_byt.getD i []).getD k.toInt.toNat 0))) := by
  refine Met.ofWF (cc := prog_16_method_2_code) (maxL := 2) (ret := (some .char)) (by decide +kernel) rfl ?_
  intro p e s m args below meth c s₁ Bd hml hv
  obtain ⟨rfl, hXs⟩ := hv
  have hexec := Bd.exec
  have hb := Bd.bytes
  have hts : ∀ w ∈ k_lg, w.before ([.ref (adV i), .int k] : List Value).toArray s = true := fun w hw => atoms_spec (ws := Cond.code sy_lat prog_16_method_2_code 2 (some .char) :: k_lg) Bd.pre w (List.mem_cons_of_mem _ hw)
  have hown : s.vm.findClass "java/lang/StringLatin1" = some m.cls := findClass_of_methodNamed Bd.named
  have hlv := lv_entry ([.ref (adV i), .int k] : List Value) (n := 2) (show 2 ≤ 2 by decide)
  show W p l e (krm 2) s m ([.ref (adV i), .int k] : List Value).toArray below meth c s.heap [] 0 0 _ (entryFrame m ([.ref (adV i), .int k] : List Value).toArray 2)
  rw [lg_entry_eq]
  generalize ((lg_sl ([.ref (adV i), .int k] : List Value) ++ List.replicate (2 - (lg_sl ([.ref (adV i), .int k] : List Value)).length) Slot.unset).toArray) = ls at hlv ⊢
  have dc := sd_lat
  have d0 := dc _ (List.mem_of_getElem? (i := 0) rfl)
  have d1 := dc _ (List.mem_of_getElem? (i := 1) rfl)
  have d2 := dc _ (List.mem_of_getElem? (i := 2) rfl)
  have d3 := dc _ (List.mem_of_getElem? (i := 3) rfl)
  have d6 := dc _ (List.mem_of_getElem? (i := 4) rfl)
  have d7 := dc _ (List.mem_of_getElem? (i := 5) rfl)
  have d8 := dc _ (List.mem_of_getElem? (i := 6) rfl)
  have d9 := dc _ (List.mem_of_getElem? (i := 7) rfl)
  have d12 := dc _ (List.mem_of_getElem? (i := 8) rfl)
  have d13 := dc _ (List.mem_of_getElem? (i := 9) rfl)
  have d14 := dc _ (List.mem_of_getElem? (i := 10) rfl)
  dsimp only at d0 d1 d2 d3 d6 d7 d8 d9 d12 d13 d14
  have h8 := s_lt i hi
  have hk8 : k.toInt.toNat < 8 := by omega
  obtain ⟨c0, c1⟩ := h8.2.2 k.toInt.toNat hk8
  obtain ⟨g1, g2⟩ := s_char c0 c1
  have hlen : (Int32.ofNat (s_len.getD i 0)).toInt = (s_len.getD i 0 : Int) := Int32.toInt_ofNat_of_lt (by omega)
  refine lv_iload_n hexec hb d0 rfl (lv_at hlv 1 rfl) ?_
  refine lv_aload_n hexec hb d1 rfl (lv_at hlv 0 rfl) ?_
  refine va_tlen hexec hb (hXs.1 i hi).2.2.2 s_S rfl d2 ?_
  refine s_callS (As := [.int k, .int (Int32.ofNat (s_len.getD i 0))]) (n := 2) (d' := 1) (rest := []) hexec hb hml hown hts hXs (fun _ _ => rfl) (sm_chk h0 (by rw [hlen]; exact h1)) sw_chk ss_chk sl_java_lang_StringLatin1_9 (by decide) (by decide +kernel) rfl (Nat.le_refl 2) (by decide) hlv.1 (by decide) d3 ?_
  refine lv_aload_n hexec hb d6 rfl (lv_at hlv 0 rfl) ?_
  refine lv_iload_n hexec hb d7 rfl (lv_at hlv 1 rfl) ?_
  refine va_tb hexec hb (hXs.1 i hi).2.2.2 s_S (i := k) (fun h => by
    rcases h with h | h
    · have := Int32.lt_iff_toInt_lt.mp h
      have e0 : (0 : Int32).toInt = 0 := rfl
      omega
    · have : k.toNatClampNeg = k.toInt.toNat := rfl
      omega) rfl d8 ?_
  refine lv_sipush (v := 255) hexec hb d9 (by decide) ?_
  refine lv_iand hexec hb d12 ?_
  refine lv_i2c (v := (s_byt.getD i []).getD k.toInt.toNat 0) hexec hb d13 g1 ?_
  exact W.zret hexec hb Bd.returns g2 (fun t ht _ => ⟨rfl, ht⟩) (fun q hq => by cases hq) d14 Bd.notSynchronized
set_option maxHeartbeats 4000000 in
theorem sm_charAt {i : Nat} {k : Int32} (hi : i < 34) (h0 : 0 ≤ k.toInt) (h1 : k.toInt < (s_len.getD i 0 : Int)) : sMet l aS adV lo sy_charAt prog_15_method_56_code 2 (some .char) 3 [.ref (aS i), .int k] (some (.int ((s_byt.getD i []).getD k.toInt.toNat 0))) := by
  refine Met.ofWF (cc := prog_15_method_56_code) (maxL := 2) (ret := (some .char)) (by decide +kernel) rfl ?_
  intro p e s m args below meth c s₁ Bd hml hv
  obtain ⟨rfl, hXs⟩ := hv
  have hexec := Bd.exec
  have hb := Bd.bytes
  have hts : ∀ w ∈ k_lg, w.before ([.ref (aS i), .int k] : List Value).toArray s = true := fun w hw => atoms_spec (ws := Cond.code sy_charAt prog_15_method_56_code 2 (some .char) :: k_lg) Bd.pre w (List.mem_cons_of_mem _ hw)
  have hown : s.vm.findClass "java/lang/String" = some m.cls := findClass_of_methodNamed Bd.named
  have hlv := lv_entry ([.ref (aS i), .int k] : List Value) (n := 2) (show 2 ≤ 2 by decide)
  show W p l e (krm 3) s m ([.ref (aS i), .int k] : List Value).toArray below meth c s.heap [] 0 0 _ (entryFrame m ([.ref (aS i), .int k] : List Value).toArray 2)
  rw [lg_entry_eq]
  generalize ((lg_sl ([.ref (aS i), .int k] : List Value) ++ List.replicate (2 - (lg_sl ([.ref (aS i), .int k] : List Value)).length) Slot.unset).toArray) = ls at hlv ⊢
  have dc := sd_charAt
  have d0 := dc _ (List.mem_of_getElem? (i := 0) rfl)
  have d1 := dc _ (List.mem_of_getElem? (i := 1) rfl)
  have d4 := dc _ (List.mem_of_getElem? (i := 2) rfl)
  have d7 := dc _ (List.mem_of_getElem? (i := 3) rfl)
  have d8 := dc _ (List.mem_of_getElem? (i := 4) rfl)
  have d11 := dc _ (List.mem_of_getElem? (i := 5) rfl)
  have d12 := dc _ (List.mem_of_getElem? (i := 6) rfl)
  have d15 := dc _ (List.mem_of_getElem? (i := 7) rfl)
  have d16 := dc _ (List.mem_of_getElem? (i := 8) rfl)
  have d17 := dc _ (List.mem_of_getElem? (i := 9) rfl)
  have d20 := dc _ (List.mem_of_getElem? (i := 10) rfl)
  have d21 := dc _ (List.mem_of_getElem? (i := 11) rfl)
  have d24 := dc _ (List.mem_of_getElem? (i := 12) rfl)
  dsimp only at d0 d1 d4 d7 d8 d11 d12 d15 d16 d17 d20 d21 d24
  have h8 := s_lt i hi
  have hk8 : k.toInt.toNat < 8 := by omega
  obtain ⟨c0, c1⟩ := h8.2.2 k.toInt.toNat hk8
  obtain ⟨g1, g2⟩ := s_char c0 c1
  refine lv_aload_n hexec hb d0 rfl (lv_at hlv 0 rfl) ?_
  refine s_callV (As := []) (n := 0) (d' := 0) (rest := []) hi hexec hb hml hown hts hXs (fun _ _ => rfl) (sm_isLatin1 hi) sw_isLatin1 ss_isLatin1 sl_java_lang_String_492 (by decide) (by decide +kernel) rfl (by decide) (by decide) hlv.1 (by decide) d1 ?_
  refine lv_if_eq (tgt := 16) hexec hb d4 rfl (fun h => absurd h (by decide)) (fun _ => ?_)
  refine lv_aload_n hexec hb d7 rfl (lv_at hlv 0 rfl) ?_
  refine vk_getf hexec hb (hXs.1 i hi).2.2.1 s_S hown (hts _ sf_9) (fun _ h => h) d8 ?_
  refine lv_iload_n hexec hb d11 rfl (lv_at hlv 1 rfl) ?_
  refine s_callS (As := [.ref (adV i), .int k]) (n := 2) (d' := 2) (rest := []) hexec hb hml hown hts hXs (fun _ _ => rfl) (sm_lat hi h0 h1) sw_lat ss_lat sl_java_lang_String_495 (by decide) (by decide +kernel) rfl (by decide) (by decide) hlv.1 (by decide) d12 ?_
  exact W.zret hexec hb Bd.returns g2 (fun t ht _ => ⟨rfl, ht⟩) (fun q hq => by cases hq) d15 Bd.notSynchronized
end HSTR
