/-! WORDS 1, of the lists -/
def mw1_c0 : List (kMd × Nat × Nat) := [mw1_0, mw1_1, mw1_2, mw1_3, mw1_4, mw1_5, mw1_6, mw1_7, mw1_8, mw1_9, mw1_10, mw1_11, mw1_12, mw1_13]
theorem mo1_c0 : ∀ x ∈ mw1_c0, kMw k_cl x := List.forall_mem_cons.mpr ⟨mo1_0, List.forall_mem_cons.mpr ⟨mo1_1, List.forall_mem_cons.mpr ⟨mo1_2, List.forall_mem_cons.mpr ⟨mo1_3, List.forall_mem_cons.mpr ⟨mo1_4, List.forall_mem_cons.mpr ⟨mo1_5, List.forall_mem_cons.mpr ⟨mo1_6, List.forall_mem_cons.mpr ⟨mo1_7, List.forall_mem_cons.mpr ⟨mo1_8, List.forall_mem_cons.mpr ⟨mo1_9, List.forall_mem_cons.mpr ⟨mo1_10, List.forall_mem_cons.mpr ⟨mo1_11, List.forall_mem_cons.mpr ⟨mo1_12, List.forall_mem_cons.mpr ⟨mo1_13, fun _ h => absurd h List.not_mem_nil⟩⟩⟩⟩⟩⟩⟩⟩⟩⟩⟩⟩⟩⟩
def mw1 : List (kMd × Nat × Nat) := mw1_c0
theorem mo1 : ∀ x ∈ mw1, kMw k_cl x := mo1_c0
theorem wc1_SilenceMatch : kOwC "SilenceMatch" ow1_SilenceMatch k_lg [] := kOwCb_ok (ps := []) (ps2 := []) (by decide +kernel)
theorem wf1_SilenceMatch : kOwF "SilenceMatch" ow1_SilenceMatch k_cl k_lg := kOwFb_ok (ps := [423, 425, 428, 432, 433, 434, 435, 132]) (by decide +kernel)
theorem wm1_SilenceMatch : kOwM "SilenceMatch" ow1_SilenceMatch k_cl (mw1.map (fun x => x.1)) k_lg [] := kOwMb_ok mo1 k_cpw (ps := [467, 629, 1179, 1182, 1034, 1195]) (by decide +kernel)
theorem wc1_SilenceMatch_Green : kOwC "SilenceMatch$Green" ow1_SilenceMatch_Green k_lg [] := kOwCb_ok (ps := []) (ps2 := []) (by decide +kernel)
theorem wf1_SilenceMatch_Green : kOwF "SilenceMatch$Green" ow1_SilenceMatch_Green k_cl k_lg := kOwFb_ok (ps := [210, 213, 219, 225, 229, 232, 235, 238, 241, 243, 174, 177, 180, 183, 187, 191, 195, 200, 203, 207]) (by decide +kernel)
theorem wm1_SilenceMatch_Green : kOwM "SilenceMatch$Green" ow1_SilenceMatch_Green k_cl (mw1.map (fun x => x.1)) k_lg [] := kOwMb_ok mo1 k_cpw (ps := [633]) (by decide +kernel)
theorem wc1_SilenceMatch_Acts : kOwC "SilenceMatch$Acts" ow1_SilenceMatch_Acts k_lg [] := kOwCb_ok (ps := []) (ps2 := []) (by decide +kernel)
theorem wf1_SilenceMatch_Acts : kOwF "SilenceMatch$Acts" ow1_SilenceMatch_Acts k_cl k_lg := kOwFb_ok (ps := [294, 295, 296, 292]) (by decide +kernel)
theorem wm1_SilenceMatch_Acts : kOwM "SilenceMatch$Acts" ow1_SilenceMatch_Acts k_cl (mw1.map (fun x => x.1)) k_lg [] := kOwMb_ok mo1 k_cpw (ps := [1186]) (by decide +kernel)
theorem wc1_SilenceMatch_Row : kOwC "SilenceMatch$Row" ow1_SilenceMatch_Row k_lg [] := kOwCb_ok (ps := []) (ps2 := []) (by decide +kernel)
theorem wf1_SilenceMatch_Row : kOwF "SilenceMatch$Row" ow1_SilenceMatch_Row k_cl k_lg := kOwFb_ok (ps := [407, 411, 409]) (by decide +kernel)
theorem wm1_SilenceMatch_Row : kOwM "SilenceMatch$Row" ow1_SilenceMatch_Row k_cl (mw1.map (fun x => x.1)) k_lg [] := kOwMb_ok mo1 k_cpw (ps := []) (by decide +kernel)
theorem wc1_SilenceMatch_Tape : kOwC "SilenceMatch$Tape" ow1_SilenceMatch_Tape k_lg [] := kOwCb_ok (ps := []) (ps2 := []) (by decide +kernel)
theorem wf1_SilenceMatch_Tape : kOwF "SilenceMatch$Tape" ow1_SilenceMatch_Tape k_cl k_lg := kOwFb_ok (ps := [131, 133]) (by decide +kernel)
theorem wm1_SilenceMatch_Tape : kOwM "SilenceMatch$Tape" ow1_SilenceMatch_Tape k_cl (mw1.map (fun x => x.1)) k_lg [] := kOwMb_ok mo1 k_cpw (ps := []) (by decide +kernel)
theorem wc1_SilenceMatchModel : kOwC "SilenceMatchModel" ow1_SilenceMatchModel k_lg [] := kOwCb_ok (ps := []) (ps2 := [1340, 1799]) (by decide +kernel)
theorem wf1_SilenceMatchModel : kOwF "SilenceMatchModel" ow1_SilenceMatchModel k_cl k_lg := kOwFb_ok (ps := [1222, 1223, 1224, 1225, 1227, 1255, 1256, 1257, 1226]) (by decide +kernel)
theorem wm1_SilenceMatchModel : kOwM "SilenceMatchModel" ow1_SilenceMatchModel k_cl (mw1.map (fun x => x.1)) k_lg [] := kOwMb_ok mo1 k_cpw (ps := [1341, 1796]) (by decide +kernel)
