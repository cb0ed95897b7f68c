/-! BY HAND: green: the fresh one becomes the world -/
section HGRN
variable {l : Launch} {D : va_G} {cA aS : Nat → Nat} {Ty : Nat → Nat → Prop} {lo : Nat} {X : State → Heap → Prop}
def gr_P : kS := hc_green.2.1
/-- the state before the copying: nothing was read (n = 0 here), or n - 1 players -/
def gr_T (n : Nat) : kS := match hb_green.2.2.2[11 + n]? with
  | some cu => cu.2.1.1
  | none => ([], [], [], [], [], [])
def gr_A : kS := (gr_P.1, [36, 37, 42], [(0, .inr (.inr (.inl 0)))], [], [(0, kcst (1 : Nat), .inr (.inr (.inl 1))), (1, kcst (0 : Nat), .inl (kcst 0)), (1, kcst (1 : Nat), .inl (kcst 0)), (1, kcst (5 : Nat), .inl (kcst 0)), (1, kcst (6 : Nat), .inl (kcst 0)), (1, kcst (10 : Nat), .inl (kcst 0))], [])
def gr_B : kS := (gr_P.1 ++ [(1, 5), (1, 4), (0, 8)], [36, 37, 42], [(0, .inr (.inr (.inl 0)))], [], [(0, kcst (1 : Nat), .inr (.inr (.inl 1))), (1, kcst (0 : Nat), .inl (ksym 5)), (1, kcst (1 : Nat), .inl (ksym 6)), (1, kcst (5 : Nat), .inl (ksym 7))], [])
def gr_cur : kCd := (kdrop 110 cd_X10_green).getD []
theorem gr_okA : kexec (kEof k_tt k_aty k_ct ow_SilenceMatchModel 2 (some .int) hc_green) (cd_X10_green, [], [], []) none 100 false gr_cur gr_A = true := by decide +kernel
theorem gr_okB : kexec (kEof k_tt k_aty k_ct ow_SilenceMatchModel 2 (some .int) hc_green) (cd_X10_green, [], [], []) none 100 false gr_cur gr_B = true := by decide +kernel
/-- what the templates say, as a Bool: its locals, types, the facts of the fresh one -/
def gr_chk (n : Nat) (S : kS) : Bool := decide (S.2.1 = [36, 37, 42]) && ((match S.2.2.1 with
  | [(i, .inr (.inr (.inl k))), (j, .inl f)] => Nat.beq i 0 && (Nat.beq k 0 && (Nat.beq j 1 && kLeq f (kcst 0)))
  | _ => false) && (S.2.2.2.1.isEmpty && (kfmem (0, kcst (1 : Nat), .inr (.inr (.inl 1))) S.2.2.2.2.1 && (kfmem (0, kcst (14 : Nat), .inr (.inr (.inl 2))) S.2.2.2.2.1 && (decide (S.1.take 5 = gr_P.1) && (match n with
  | 0 => [0, 1, 5, 6, 10].all (fun j => kfmem (2, kcst ((j : Nat) : Int), .inl (kcst 0)) S.2.2.2.2.1)
  | n + 1 => kfmem (2, kcst (0 : Nat), .inl (ksym 5)) S.2.2.2.2.1 && (kfmem (2, kcst (1 : Nat), .inl (ksym 6)) S.2.2.2.2.1 && (kfmem (2, kcst (5 : Nat), .inl (kcst (n : Int))) S.2.2.2.2.1 && (decide (S.1[5]? = some (1, 5)) && (decide (S.1[6]? = some (1, 4)) && (decide (n ≤ 8) && (List.range n).all (fun P => kfmem (2, kcst ((14 + 4 * P : Nat) : Int), .inl (ksym (7 + P))) S.2.2.2.2.1 && decide (S.1[7 + P]? = some (4, 30)))))))))))))) 
theorem gr_loc {S : kS} (h : (match S.2.2.1 with
  | [(i, .inr (.inr (.inl k))), (j, .inl f)] => Nat.beq i 0 && (Nat.beq k 0 && (Nat.beq j 1 && kLeq f (kcst 0)))
  | _ => false) = true) : S.2.2.1 = [(0, .inr (.inr (.inl 0))), (1, .inl (kcst 0))] := by
  split at h
  · rename_i i k j f hS
    simp only [Bool.and_eq_true] at h
    rw [hS, Nat.beq_eq.mp h.1, Nat.beq_eq.mp h.2.1, Nat.beq_eq.mp h.2.2.1, kLeq_eq h.2.2.2]
  · cases h
theorem gr_all : ∀ n, n < 10 → gr_chk n (gr_T n) = true := by decide +kernel
theorem gr_cuts : ∀ cu ∈ hb_green.2.2.2.drop 11, ∃ n, n < 10 ∧ cu.1 = 86 ∧ cu.2.1.1 = gr_T n := List.forall_mem_cons.mpr ⟨⟨0, by decide, rfl, rfl⟩, List.forall_mem_cons.mpr ⟨⟨1, by decide, rfl, rfl⟩, List.forall_mem_cons.mpr ⟨⟨2, by decide, rfl, rfl⟩, List.forall_mem_cons.mpr ⟨⟨3, by decide, rfl, rfl⟩, List.forall_mem_cons.mpr ⟨⟨4, by decide, rfl, rfl⟩, List.forall_mem_cons.mpr ⟨⟨5, by decide, rfl, rfl⟩, List.forall_mem_cons.mpr ⟨⟨6, by decide, rfl, rfl⟩, List.forall_mem_cons.mpr ⟨⟨7, by decide, rfl, rfl⟩, List.forall_mem_cons.mpr ⟨⟨8, by decide, rfl, rfl⟩, List.forall_mem_cons.mpr ⟨⟨9, by decide, rfl, rfl⟩, fun _ h => absurd h List.not_mem_nil⟩⟩⟩⟩⟩⟩⟩⟩⟩⟩
set_option maxHeartbeats 4000000 in
theorem gh_green (hX : kXok X lo) (hT : kTyp k_tt Ty) (hS : ∀ (j : Nat) (q : String × Nat × String), k_sk[j]? = some q → Ty (aS j) (ksn j)) : kGo l k_cl k_aty k_ns k_sk k_mw D cA aS k_tt Ty lo X k_ct hc_green := fun h => by
  have hR := kRest_of (l := l) (D := D) (cA := cA) (aS := aS) wc_SilenceMatchModel wf_SilenceMatchModel wm_SilenceMatchModel k_clok k_tok k_nsn hX hT hS h
  refine kbodyH_met (by decide +kernel) rfl hR dc_X10_green rfl hk_green (fun p e s m args below meth c hcx zs as hP hP2 cu hcu x u H locs lv st ls hst hlv hm => ?_)
  have hcu : cu ∈ hb_green.2.2.2.drop 11 := hcu
  obtain ⟨n, hn10, h86, hTn⟩ := gr_cuts cu hcu
  have hck := gr_all n hn10
  rw [hTn] at hst
  rw [h86]
  generalize gr_T n = T at hst hck
  unfold gr_chk at hck
  simp only [Bool.and_eq_true, decide_eq_true_eq] at hck
  obtain ⟨k1, k2, k3, k4, k5, k6, k7⟩ := hck
  have k2 := gr_loc k2
  have k3 := List.isEmpty_iff.mp k3
  have k4 := kfmem_ok k4
  have k5 := kfmem_ok k5
  have hG := hm.1
  obtain ⟨hexec, hb, hml, hown, hts, hrt, hlk, hK, hXs⟩ := id hcx
  obtain ⟨a, ra, ha⟩ := kRt_at hst.2.2.1 (k := 0) (t := 36) (by rw [k1]; rfl)
  obtain ⟨d, rd, hd⟩ := kRt_at hst.2.2.1 (k := 1) (t := 37) (by rw [k1]; rfl)
  obtain ⟨w, rw_, hw⟩ := kRt_at hst.2.2.1 (k := 2) (t := 42) (by rw [k1]; rfl)
  obtain ⟨-, V, cV, vV⟩ := hG.1 a 36 _ ha kt36
  obtain ⟨ld, Vd, cd, vd⟩ := hG.1 d 37 _ hd kt37
  obtain ⟨lw, Vf, cf, vf⟩ := hG.1 w 42 _ hw kt42
  have had : a ≠ d := fun e => by
    subst e
    exact absurd (kTyp_eq hT ha hd kt36 kt37) (by decide)
  have hwd : w ≠ d := fun e => by
    subst e
    exact absurd (kTyp_eq hT hw hd kt42 kt37) (by decide)
  obtain ⟨b1, e1, r1⟩ := ref_at hT hst k4 ra ha kt36 cV (by decide)
  have eb1 : b1 = d := Option.some.inj (r1.symm.trans rd)
  subst eb1
  obtain ⟨b2, e2, r2⟩ := ref_at hT hst k5 ra ha kt36 cV (by decide)
  have eb2 : b2 = w := Option.some.inj (r2.symm.trans rw_)
  subst eb2
  have hloc := hst.2.2.2.1
  rw [k2] at hloc
  have hstk := hst.2.2.2.2.1
  rw [k3] at hstk
  match st, hstk with
  | _ :: _, hstk => exact hstk.elim
  | [], hstk =>
  match lv, hloc with
  | [(_, _), (_, _)], ⟨rfl, ⟨a', rfl, ea⟩, rfl, ⟨i0, rfl, ei⟩, _⟩ =>
  have ea : a' = a := Option.some.inj (ea.symm.trans ra)
  subst ea
  have ei : i0.toInt = ((0 : Nat) : Int) := (Option.some.inj (kcst_ev.symm.trans ei)).symm
  have hrt3 : kRt Ty (as ++ u) [36, 37, 42] := by
    have := hst.2.2.1
    rw [k1] at this
    exact this
  -- how many players; and the mode
  have key : ∃ q : Int32, Vf 5 = .int q ∧ (∀ P : Nat, P < 8 → (P : Int) < q.toInt → kpok Ty (.inl [(4, 30)]) (Vf (14 + 4 * P))) ∧ ((Vf 0 = .int 0 ∧ Vf 1 = .int 0 ∧ Vf 5 = .int 0 ∧ Vf 6 = .int 0 ∧ Vf 10 = .int 0) ∨ ∃ q0 q1 : Int32, Vf 0 = .int q0 ∧ Vf 1 = .int q1 ∧ 1 ≤ q0.toInt ∧ q0.toInt ≤ 5 ∧ 1 ≤ q1.toInt ∧ q1.toInt ≤ 4 ∧ 0 ≤ q.toInt ∧ q.toInt ≤ 8) := by
    match n, k7 with
    | 0, k7 =>
      have z : ∀ j ∈ [0, 1, 5, 6, 10], Vf j = .int 0 := fun j hj => by
        have hm2 := kfmem_ok (List.all_eq_true.mp k7 j hj)
        have hj5 : j < 5000 := by
          rcases List.mem_cons.mp hj with rfl | hj
          · decide
          · rcases List.mem_cons.mp hj with rfl | hj
            · decide
            · rcases List.mem_cons.mp hj with rfl | hj
              · decide
              · rcases List.mem_cons.mp hj with rfl | hj
                · decide
                · rcases List.mem_cons.mp hj with rfl | hj
                  · decide
                  · cases hj
        obtain ⟨q, eq, kq⟩ := fact_int hT hst hm2 r2 hw kt42 cf hj5
        have : q = 0 := Int32.toInt_inj.mp (Option.some.inj (kcst_ev.symm.trans kq)).symm
        rw [eq, this]
      refine ⟨0, z 5 (by decide), fun P _ hP => ?_, Or.inl ⟨z 0 (by decide), z 1 (by decide), z 5 (by decide), z 6 (by decide), z 10 (by decide)⟩⟩
      have : (0 : Int32).toInt = 0 := rfl
      omega
    | n + 1, k7 =>
      simp only [Bool.and_eq_true, decide_eq_true_eq] at k7
      obtain ⟨m0, m1, m5, i5, i6, n8, mp⟩ := k7
      have m0 := kfmem_ok m0
      have m1 := kfmem_ok m1
      have m5 := kfmem_ok m5
      obtain ⟨q0, eq0, kq0⟩ := fact_int hT hst m0 r2 hw kt42 cf (by decide)
      obtain ⟨q1, eq1, kq1⟩ := fact_int hT hst m1 r2 hw kt42 cf (by decide)
      obtain ⟨q5, eq5, kq5⟩ := fact_int hT hst m5 r2 hw kt42 cf (by decide)
      have e5 : (n : Int) = q5.toInt := Option.some.inj (kcst_ev.symm.trans kq5)
      obtain ⟨z5, rz5⟩ := kI_some hst.1 i5
      obtain ⟨z6, rz6⟩ := kI_some hst.1 i6
      have b5 := hst.1.2 5 _ z5 i5 rz5
      have b6 := hst.1.2 6 _ z6 i6 rz6
      have ez5 : z5 = q0.toInt := Option.some.inj ((ksym_ev rz5).symm.trans kq0)
      have ez6 : z6 = q1.toInt := Option.some.inj ((ksym_ev rz6).symm.trans kq1)
      dsimp only at b5 b6
      refine ⟨q5, eq5, fun P _ hPn => ?_, Or.inr ⟨q0, q1, eq0, eq1, by omega, by omega, by omega, by omega, by omega, by omega⟩⟩
      have hpp := List.all_eq_true.mp mp P (List.mem_range.mpr (by omega))
      simp only [Bool.and_eq_true, decide_eq_true_eq] at hpp
      obtain ⟨qp, eqp, kqp⟩ := fact_int hT hst (kfmem_ok hpp.1) r2 hw kt42 cf (by omega)
      obtain ⟨zp, rzp⟩ := kI_some hst.1 hpp.2
      have bp := hst.1.2 _ _ zp hpp.2 rzp
      have ezp : zp = qp.toInt := Option.some.inj ((ksym_ev rzp).symm.trans kqp)
      dsimp only at bp
      exact ⟨qp, eqp, (4, 30), List.mem_cons_self, by show (4 : Int) ≤ _; omega, by show _ ≤ (30 : Int); omega⟩
  obtain ⟨q, eq5, hself, hmode⟩ := key
  refine grn_loop (H0 := H) (lo := lo) (Vd := Vd) hexec hb hts hown hK dc_X10_green had hwd ld e2 e1 (fun j hj => any_int vf (List.mem_append_right _ List.mem_cons_self) hj) (fun i ls1 H1 locs1 hi1 hl1 c36 cs cd1 ho1 hz1 hlc1 => ?_) 115 0 i0 ls H locs (by omega) ei hlv cV cf (by rw [cpv_zero]; exact cd) (fun _ _ => rfl) rfl hm.2.2.2
  have hcp : ∀ j, j < 115 → cpv Vf Vd 0 0 115 j = Vf j := fun j hj => by
    have := cpv_in (Vs := Vf) (Vd := Vd) (so := 0) (off := 0) hj
    rw [Nat.zero_add] at this
    exact this
  have hv1 : kvals Ty kt_37 (cpv Vf Vd 0 0 115) := v37_congr (v37_of42 vf eq5 hself) hcp
  have hG1 : kgood D cA k_tt Ty lo H1 := kgood_of hT hG [(b1, 37)] (List.forall_mem_cons.mpr ⟨⟨Nat.blt_eq.mp rfl, hd, fun T hT2 => by cases Option.some.inj (kt37.symm.trans hT2); exact ⟨_, cd1, hv1⟩⟩, fun _ h => absurd h List.not_mem_nil⟩) (fun q hq => ho1 q (hq _ List.mem_cons_self)) (kY_kept hT hG.2 hd kt37 rfl ho1)
  have hkp : kkp D cA k_tt Ty hc_green.2.2.2.2.1 H H1 := kkp_of hT [(b1, 37)] (List.forall_mem_cons.mpr ⟨⟨Nat.blt_eq.mp rfl, hd, Or.inl (show ((37, none) : Nat × Option Nat) ∈ hc_green.2.2.2.2.1 by decide)⟩, fun _ h => absurd h List.not_mem_nil⟩) (fun q hq => ho1 q (hq _ List.mem_cons_self))
  have hm1 : kmov D cA k_tt Ty lo hc_green.2.2.2.2.1 s.heap H1 locs1 := ⟨hG1, kfr_trans hm.2.1 ⟨hz1, fun q hq => ho1 q (by omega)⟩, kkp_trans hm.2.2.1 hkp, hlc1⟩
  have hl2 : lv_has ls1 2 [(0, .ref a')] := lv_sub hl1 [0] rfl
  -- the contract's own symbols
  have hzs : kI zs gr_P.1 := by
    have hl5 : zs.length = 5 := hP.symm
    have hpl : gr_P.1.length = 5 := rfl
    refine ⟨by rw [hl5, hpl], fun j r z hr hz => ?_⟩
    refine hst.1.2 j r z ?_ (by rw [List.getElem?_append_left (List.getElem?_eq_some_iff.mp hz).1]; exact hz)
    have hj : j < 5 := by
      have := (List.getElem?_eq_some_iff.mp hz).1
      omega
    rw [← k6, List.getElem?_take_of_lt hj] at hr
    exact hr
  rcases hmode with ⟨m0, m1, m5, m6, m10⟩ | ⟨q0, q1, m0, m1, g0, g5, g1, g4, p0, p8⟩
  · refine kfrom (S := gr_A) (cal := []) hcx hR hP hP2 dc_X10_green (cur := gr_cur) rfl gr_okA (x := []) (u := u) (lv := [(0, .ref a')]) ⟨by rw [List.append_nil]; exact hzs, (fun g hg => by cases hg), hrt3, ⟨rfl, ⟨a', rfl, ra⟩, trivial⟩, trivial, ?_⟩ hl2 hm1
    have z : ∀ j, j < 115 → Vf j = .int 0 → kfok D cA k_tt Ty (zs ++ []) (as ++ u) H1 (1, kcst (j : Int), .inl (kcst 0)) := fun j hj ej => fact_mk hT r1 hd kt37 cd1 hj (by rw [hcp j hj]; exact ej) kcst_ev
    exact List.forall_mem_cons.mpr ⟨fact_ref hT ra ha kt36 c36 (by decide) e1 r1, List.forall_mem_cons.mpr ⟨z 0 (by decide) m0, List.forall_mem_cons.mpr ⟨z 1 (by decide) m1, List.forall_mem_cons.mpr ⟨z 5 (by decide) m5, List.forall_mem_cons.mpr ⟨z 6 (by decide) m6, List.forall_mem_cons.mpr ⟨z 10 (by decide) m10, fun _ h => absurd h List.not_mem_nil⟩⟩⟩⟩⟩⟩
  · have hI3 : kI (zs ++ [q0.toInt, q1.toInt, q.toInt]) (gr_P.1 ++ [(1, 5), (1, 4), (0, 8)]) := by
      have h1 := kI_push (q := (1, 5)) hzs (z := q0.toInt) g0 g5
      have h2 := kI_push (q := (1, 4)) h1 (z := q1.toInt) g1 g4
      have h3 := kI_push (q := (0, 8)) h2 (z := q.toInt) p0 p8
      simpa using h3
    have hl5 : zs.length = 5 := hP.symm
    have s5 : (zs ++ [q0.toInt, q1.toInt, q.toInt])[5]? = some q0.toInt := by rw [List.getElem?_append_right (by omega), hl5]; rfl
    have s6 : (zs ++ [q0.toInt, q1.toInt, q.toInt])[6]? = some q1.toInt := by rw [List.getElem?_append_right (by omega), hl5]; rfl
    have s7 : (zs ++ [q0.toInt, q1.toInt, q.toInt])[7]? = some q.toInt := by rw [List.getElem?_append_right (by omega), hl5]; rfl
    refine kfrom (S := gr_B) (cal := []) hcx hR hP hP2 dc_X10_green (cur := gr_cur) rfl gr_okB (x := [q0.toInt, q1.toInt, q.toInt]) (u := u) (lv := [(0, .ref a')]) ⟨hI3, (fun g hg => by cases hg), hrt3, ⟨rfl, ⟨a', rfl, ra⟩, trivial⟩, trivial, ?_⟩ hl2 hm1
    exact List.forall_mem_cons.mpr ⟨fact_ref hT ra ha kt36 c36 (by decide) e1 r1, List.forall_mem_cons.mpr ⟨fact_mk hT r1 hd kt37 cd1 (by decide) (by rw [hcp 0 (by decide)]; exact m0) (ksym_ev s5), List.forall_mem_cons.mpr ⟨fact_mk hT r1 hd kt37 cd1 (by decide) (by rw [hcp 1 (by decide)]; exact m1) (ksym_ev s6), List.forall_mem_cons.mpr ⟨fact_mk hT r1 hd kt37 cd1 (by decide) (by rw [hcp 5 (by decide)]; exact eq5) (ksym_ev s7), fun _ h => absurd h List.not_mem_nil⟩⟩⟩⟩
end HGRN
