/-! all cases (printed by wip/p1/gen/lawgen.py): place, kind, whether the answer is a long, pool places, which table -/
abbrev lCs : Type := Nat × Nat × Bool × Nat × Nat × Bool
def lok (q : lCs) : Prop := lkok q.2.1 ∧ lcdok code q.1 q.2.1 q.2.2.1 q.2.2.2.1 q.2.2.2.2.1 ∧ (q.2.2.2.2.2 = false → lcase k0_tt k_aty k0_ct owL0 calL0 wrL [] q.1 q.2.1 q.2.2.1 q.2.2.2.1 q.2.2.2.2.1 = true) ∧ (q.2.2.2.2.2 = true → lcase k1_tt k_aty k1_ct owL1 calL1 wrL fcL q.1 q.2.1 q.2.2.1 q.2.2.2.1 q.2.2.2.2.1 = true)
theorem lo_0 : lok (324, 5, false, 13, 17, true) := ⟨Or.inr (Or.inr (Or.inr (Or.inr (Or.inl rfl)))), ld_0, (fun h => by cases h), (fun _ => lc_0)⟩
theorem lo_1 : lok (387, 1, false, 18, 22, false) := ⟨Or.inr (Or.inl rfl), ld_1, (fun _ => lc_1), (fun h => by cases h)⟩
theorem lo_2 : lok (410, 0, false, 23, 27, false) := ⟨Or.inl rfl, ld_2, (fun _ => lc_2), (fun h => by cases h)⟩
theorem lo_3 : lok (423, 1, false, 28, 31, false) := ⟨Or.inr (Or.inl rfl), ld_3, (fun _ => lc_3), (fun h => by cases h)⟩
theorem lo_4 : lok (446, 2, false, 32, 36, false) := ⟨Or.inr (Or.inr (Or.inl rfl)), ld_4, (fun _ => lc_4), (fun h => by cases h)⟩
theorem lo_5 : lok (479, 2, false, 37, 40, false) := ⟨Or.inr (Or.inr (Or.inl rfl)), ld_5, (fun _ => lc_5), (fun h => by cases h)⟩
theorem lo_6 : lok (512, 2, false, 41, 44, false) := ⟨Or.inr (Or.inr (Or.inl rfl)), ld_6, (fun _ => lc_6), (fun h => by cases h)⟩
theorem lo_7 : lok (545, 1, false, 45, 48, false) := ⟨Or.inr (Or.inl rfl), ld_7, (fun _ => lc_7), (fun h => by cases h)⟩
theorem lo_8 : lok (568, 2, false, 49, 52, false) := ⟨Or.inr (Or.inr (Or.inl rfl)), ld_8, (fun _ => lc_8), (fun h => by cases h)⟩
theorem lo_9 : lok (601, 1, false, 53, 56, false) := ⟨Or.inr (Or.inl rfl), ld_9, (fun _ => lc_9), (fun h => by cases h)⟩
theorem lo_10 : lok (624, 1, false, 57, 60, false) := ⟨Or.inr (Or.inl rfl), ld_10, (fun _ => lc_10), (fun h => by cases h)⟩
theorem lo_11 : lok (647, 1, false, 61, 64, false) := ⟨Or.inr (Or.inl rfl), ld_11, (fun _ => lc_11), (fun h => by cases h)⟩
theorem lo_12 : lok (670, 1, false, 65, 68, false) := ⟨Or.inr (Or.inl rfl), ld_12, (fun _ => lc_12), (fun h => by cases h)⟩
theorem lo_13 : lok (693, 1, false, 69, 72, false) := ⟨Or.inr (Or.inl rfl), ld_13, (fun _ => lc_13), (fun h => by cases h)⟩
theorem lo_14 : lok (716, 1, false, 73, 76, false) := ⟨Or.inr (Or.inl rfl), ld_14, (fun _ => lc_14), (fun h => by cases h)⟩
theorem lo_15 : lok (739, 1, false, 77, 80, false) := ⟨Or.inr (Or.inl rfl), ld_15, (fun _ => lc_15), (fun h => by cases h)⟩
theorem lo_16 : lok (762, 1, false, 81, 84, false) := ⟨Or.inr (Or.inl rfl), ld_16, (fun _ => lc_16), (fun h => by cases h)⟩
theorem lo_17 : lok (785, 2, false, 85, 88, false) := ⟨Or.inr (Or.inr (Or.inl rfl)), ld_17, (fun _ => lc_17), (fun h => by cases h)⟩
theorem lo_18 : lok (818, 0, false, 89, 92, false) := ⟨Or.inl rfl, ld_18, (fun _ => lc_18), (fun h => by cases h)⟩
theorem lo_19 : lok (831, 0, false, 93, 96, false) := ⟨Or.inl rfl, ld_19, (fun _ => lc_19), (fun h => by cases h)⟩
theorem lo_20 : lok (844, 0, false, 97, 100, false) := ⟨Or.inl rfl, ld_20, (fun _ => lc_20), (fun h => by cases h)⟩
theorem lo_21 : lok (857, 1, false, 101, 104, false) := ⟨Or.inr (Or.inl rfl), ld_21, (fun _ => lc_21), (fun h => by cases h)⟩
theorem lo_22 : lok (880, 1, false, 105, 108, false) := ⟨Or.inr (Or.inl rfl), ld_22, (fun _ => lc_22), (fun h => by cases h)⟩
theorem lo_23 : lok (903, 1, false, 109, 112, false) := ⟨Or.inr (Or.inl rfl), ld_23, (fun _ => lc_23), (fun h => by cases h)⟩
theorem lo_24 : lok (926, 1, false, 113, 116, false) := ⟨Or.inr (Or.inl rfl), ld_24, (fun _ => lc_24), (fun h => by cases h)⟩
theorem lo_25 : lok (949, 0, false, 117, 120, false) := ⟨Or.inl rfl, ld_25, (fun _ => lc_25), (fun h => by cases h)⟩
theorem lo_26 : lok (962, 0, false, 121, 124, false) := ⟨Or.inl rfl, ld_26, (fun _ => lc_26), (fun h => by cases h)⟩
theorem lo_27 : lok (975, 1, false, 125, 128, false) := ⟨Or.inr (Or.inl rfl), ld_27, (fun _ => lc_27), (fun h => by cases h)⟩
theorem lo_28 : lok (998, 0, false, 129, 132, false) := ⟨Or.inl rfl, ld_28, (fun _ => lc_28), (fun h => by cases h)⟩
theorem lo_29 : lok (1011, 1, false, 133, 136, false) := ⟨Or.inr (Or.inl rfl), ld_29, (fun _ => lc_29), (fun h => by cases h)⟩
theorem lo_30 : lok (1034, 0, false, 137, 140, false) := ⟨Or.inl rfl, ld_30, (fun _ => lc_30), (fun h => by cases h)⟩
theorem lo_31 : lok (1047, 1, false, 141, 144, false) := ⟨Or.inr (Or.inl rfl), ld_31, (fun _ => lc_31), (fun h => by cases h)⟩
theorem lo_32 : lok (1070, 1, false, 145, 148, false) := ⟨Or.inr (Or.inl rfl), ld_32, (fun _ => lc_32), (fun h => by cases h)⟩
theorem lo_33 : lok (1093, 1, false, 149, 152, false) := ⟨Or.inr (Or.inl rfl), ld_33, (fun _ => lc_33), (fun h => by cases h)⟩
theorem lo_34 : lok (1116, 1, false, 153, 156, false) := ⟨Or.inr (Or.inl rfl), ld_34, (fun _ => lc_34), (fun h => by cases h)⟩
theorem lo_35 : lok (1139, 1, false, 157, 160, false) := ⟨Or.inr (Or.inl rfl), ld_35, (fun _ => lc_35), (fun h => by cases h)⟩
theorem lo_36 : lok (1162, 1, false, 161, 164, false) := ⟨Or.inr (Or.inl rfl), ld_36, (fun _ => lc_36), (fun h => by cases h)⟩
theorem lo_37 : lok (1185, 2, false, 165, 168, false) := ⟨Or.inr (Or.inr (Or.inl rfl)), ld_37, (fun _ => lc_37), (fun h => by cases h)⟩
theorem lo_38 : lok (1218, 3, false, 169, 173, false) := ⟨Or.inr (Or.inr (Or.inr (Or.inl rfl))), ld_38, (fun _ => lc_38), (fun h => by cases h)⟩
theorem lo_39 : lok (1261, 2, false, 174, 177, false) := ⟨Or.inr (Or.inr (Or.inl rfl)), ld_39, (fun _ => lc_39), (fun h => by cases h)⟩
theorem lo_40 : lok (1294, 1, false, 178, 181, false) := ⟨Or.inr (Or.inl rfl), ld_40, (fun _ => lc_40), (fun h => by cases h)⟩
theorem lo_41 : lok (1317, 2, false, 182, 185, false) := ⟨Or.inr (Or.inr (Or.inl rfl)), ld_41, (fun _ => lc_41), (fun h => by cases h)⟩
theorem lo_42 : lok (1350, 2, false, 186, 189, false) := ⟨Or.inr (Or.inr (Or.inl rfl)), ld_42, (fun _ => lc_42), (fun h => by cases h)⟩
theorem lo_43 : lok (1383, 0, false, 190, 193, false) := ⟨Or.inl rfl, ld_43, (fun _ => lc_43), (fun h => by cases h)⟩
theorem lo_44 : lok (1396, 1, false, 194, 197, false) := ⟨Or.inr (Or.inl rfl), ld_44, (fun _ => lc_44), (fun h => by cases h)⟩
theorem lo_45 : lok (1419, 1, false, 198, 201, false) := ⟨Or.inr (Or.inl rfl), ld_45, (fun _ => lc_45), (fun h => by cases h)⟩
theorem lo_46 : lok (1442, 1, false, 202, 205, false) := ⟨Or.inr (Or.inl rfl), ld_46, (fun _ => lc_46), (fun h => by cases h)⟩
theorem lo_47 : lok (1465, 1, false, 206, 209, false) := ⟨Or.inr (Or.inl rfl), ld_47, (fun _ => lc_47), (fun h => by cases h)⟩
theorem lo_48 : lok (1488, 1, false, 210, 213, false) := ⟨Or.inr (Or.inl rfl), ld_48, (fun _ => lc_48), (fun h => by cases h)⟩
theorem lo_49 : lok (1511, 0, false, 214, 217, false) := ⟨Or.inl rfl, ld_49, (fun _ => lc_49), (fun h => by cases h)⟩
theorem lo_50 : lok (1524, 0, false, 218, 221, false) := ⟨Or.inl rfl, ld_50, (fun _ => lc_50), (fun h => by cases h)⟩
theorem lo_51 : lok (1537, 2, false, 222, 225, false) := ⟨Or.inr (Or.inr (Or.inl rfl)), ld_51, (fun _ => lc_51), (fun h => by cases h)⟩
theorem lo_52 : lok (1570, 1, false, 226, 229, false) := ⟨Or.inr (Or.inl rfl), ld_52, (fun _ => lc_52), (fun h => by cases h)⟩
theorem lo_53 : lok (1593, 2, true, 230, 234, false) := ⟨Or.inr (Or.inr (Or.inl rfl)), ld_53, (fun _ => lc_53), (fun h => by cases h)⟩
theorem lo_54 : lok (1627, 1, false, 235, 238, false) := ⟨Or.inr (Or.inl rfl), ld_54, (fun _ => lc_54), (fun h => by cases h)⟩
theorem lo_55 : lok (1650, 2, false, 239, 242, false) := ⟨Or.inr (Or.inr (Or.inl rfl)), ld_55, (fun _ => lc_55), (fun h => by cases h)⟩
theorem lo_56 : lok (1683, 2, false, 243, 246, false) := ⟨Or.inr (Or.inr (Or.inl rfl)), ld_56, (fun _ => lc_56), (fun h => by cases h)⟩
theorem lo_57 : lok (1716, 2, false, 247, 250, false) := ⟨Or.inr (Or.inr (Or.inl rfl)), ld_57, (fun _ => lc_57), (fun h => by cases h)⟩
theorem lo_58 : lok (1749, 0, false, 251, 254, false) := ⟨Or.inl rfl, ld_58, (fun _ => lc_58), (fun h => by cases h)⟩
theorem lo_59 : lok (1762, 0, false, 255, 258, false) := ⟨Or.inl rfl, ld_59, (fun _ => lc_59), (fun h => by cases h)⟩
theorem lo_60 : lok (1775, 2, false, 259, 262, false) := ⟨Or.inr (Or.inr (Or.inl rfl)), ld_60, (fun _ => lc_60), (fun h => by cases h)⟩
theorem lo_61 : lok (1808, 3, false, 263, 266, false) := ⟨Or.inr (Or.inr (Or.inr (Or.inl rfl))), ld_61, (fun _ => lc_61), (fun h => by cases h)⟩
theorem lo_62 : lok (1851, 1, false, 267, 270, false) := ⟨Or.inr (Or.inl rfl), ld_62, (fun _ => lc_62), (fun h => by cases h)⟩
theorem lo_63 : lok (1874, 1, false, 271, 274, false) := ⟨Or.inr (Or.inl rfl), ld_63, (fun _ => lc_63), (fun h => by cases h)⟩
theorem lo_64 : lok (1897, 1, false, 275, 278, true) := ⟨Or.inr (Or.inl rfl), ld_64, (fun h => by cases h), (fun _ => lc_64)⟩
theorem lo_65 : lok (1920, 1, false, 279, 282, false) := ⟨Or.inr (Or.inl rfl), ld_65, (fun _ => lc_65), (fun h => by cases h)⟩
theorem lo_66 : lok (1943, 3, false, 283, 286, true) := ⟨Or.inr (Or.inr (Or.inr (Or.inl rfl))), ld_66, (fun h => by cases h), (fun _ => lc_66)⟩
theorem lo_67 : lok (1986, 9, false, 289, 293, false) := ⟨Or.inr (Or.inr (Or.inr (Or.inr (Or.inr rfl)))), ld_67, (fun _ => lc_67), (fun h => by cases h)⟩
theorem lo_68 : lok (2059, 5, false, 294, 297, false) := ⟨Or.inr (Or.inr (Or.inr (Or.inr (Or.inl rfl)))), ld_68, (fun _ => lc_68), (fun h => by cases h)⟩
def lcs : List lCs := [(324, 5, false, 13, 17, true), (387, 1, false, 18, 22, false), (410, 0, false, 23, 27, false), (423, 1, false, 28, 31, false), (446, 2, false, 32, 36, false), (479, 2, false, 37, 40, false), (512, 2, false, 41, 44, false), (545, 1, false, 45, 48, false), (568, 2, false, 49, 52, false), (601, 1, false, 53, 56, false), (624, 1, false, 57, 60, false), (647, 1, false, 61, 64, false), (670, 1, false, 65, 68, false), (693, 1, false, 69, 72, false), (716, 1, false, 73, 76, false), (739, 1, false, 77, 80, false), (762, 1, false, 81, 84, false), (785, 2, false, 85, 88, false), (818, 0, false, 89, 92, false), (831, 0, false, 93, 96, false), (844, 0, false, 97, 100, false), (857, 1, false, 101, 104, false), (880, 1, false, 105, 108, false), (903, 1, false, 109, 112, false), (926, 1, false, 113, 116, false), (949, 0, false, 117, 120, false), (962, 0, false, 121, 124, false), (975, 1, false, 125, 128, false), (998, 0, false, 129, 132, false), (1011, 1, false, 133, 136, false), (1034, 0, false, 137, 140, false), (1047, 1, false, 141, 144, false), (1070, 1, false, 145, 148, false), (1093, 1, false, 149, 152, false), (1116, 1, false, 153, 156, false), (1139, 1, false, 157, 160, false), (1162, 1, false, 161, 164, false), (1185, 2, false, 165, 168, false), (1218, 3, false, 169, 173, false), (1261, 2, false, 174, 177, false), (1294, 1, false, 178, 181, false), (1317, 2, false, 182, 185, false), (1350, 2, false, 186, 189, false), (1383, 0, false, 190, 193, false), (1396, 1, false, 194, 197, false), (1419, 1, false, 198, 201, false), (1442, 1, false, 202, 205, false), (1465, 1, false, 206, 209, false), (1488, 1, false, 210, 213, false), (1511, 0, false, 214, 217, false), (1524, 0, false, 218, 221, false), (1537, 2, false, 222, 225, false), (1570, 1, false, 226, 229, false), (1593, 2, true, 230, 234, false), (1627, 1, false, 235, 238, false), (1650, 2, false, 239, 242, false), (1683, 2, false, 243, 246, false), (1716, 2, false, 247, 250, false), (1749, 0, false, 251, 254, false), (1762, 0, false, 255, 258, false), (1775, 2, false, 259, 262, false), (1808, 3, false, 263, 266, false), (1851, 1, false, 267, 270, false), (1874, 1, false, 271, 274, false), (1897, 1, false, 275, 278, true), (1920, 1, false, 279, 282, false), (1943, 3, false, 283, 286, true), (1986, 9, false, 289, 293, false), (2059, 5, false, 294, 297, false)]
theorem lcs_ok : ∀ q ∈ lcs, lok q := List.forall_mem_cons.mpr ⟨lo_0, List.forall_mem_cons.mpr ⟨lo_1, List.forall_mem_cons.mpr ⟨lo_2, List.forall_mem_cons.mpr ⟨lo_3, List.forall_mem_cons.mpr ⟨lo_4, List.forall_mem_cons.mpr ⟨lo_5, List.forall_mem_cons.mpr ⟨lo_6, List.forall_mem_cons.mpr ⟨lo_7, List.forall_mem_cons.mpr ⟨lo_8, List.forall_mem_cons.mpr ⟨lo_9, List.forall_mem_cons.mpr ⟨lo_10, List.forall_mem_cons.mpr ⟨lo_11, List.forall_mem_cons.mpr ⟨lo_12, List.forall_mem_cons.mpr ⟨lo_13, List.forall_mem_cons.mpr ⟨lo_14, List.forall_mem_cons.mpr ⟨lo_15, List.forall_mem_cons.mpr ⟨lo_16, List.forall_mem_cons.mpr ⟨lo_17, List.forall_mem_cons.mpr ⟨lo_18, List.forall_mem_cons.mpr ⟨lo_19, List.forall_mem_cons.mpr ⟨lo_20, List.forall_mem_cons.mpr ⟨lo_21, List.forall_mem_cons.mpr ⟨lo_22, List.forall_mem_cons.mpr ⟨lo_23, List.forall_mem_cons.mpr ⟨lo_24, List.forall_mem_cons.mpr ⟨lo_25, List.forall_mem_cons.mpr ⟨lo_26, List.forall_mem_cons.mpr ⟨lo_27, List.forall_mem_cons.mpr ⟨lo_28, List.forall_mem_cons.mpr ⟨lo_29, List.forall_mem_cons.mpr ⟨lo_30, List.forall_mem_cons.mpr ⟨lo_31, List.forall_mem_cons.mpr ⟨lo_32, List.forall_mem_cons.mpr ⟨lo_33, List.forall_mem_cons.mpr ⟨lo_34, List.forall_mem_cons.mpr ⟨lo_35, List.forall_mem_cons.mpr ⟨lo_36, List.forall_mem_cons.mpr ⟨lo_37, List.forall_mem_cons.mpr ⟨lo_38, List.forall_mem_cons.mpr ⟨lo_39, List.forall_mem_cons.mpr ⟨lo_40, List.forall_mem_cons.mpr ⟨lo_41, List.forall_mem_cons.mpr ⟨lo_42, List.forall_mem_cons.mpr ⟨lo_43, List.forall_mem_cons.mpr ⟨lo_44, List.forall_mem_cons.mpr ⟨lo_45, List.forall_mem_cons.mpr ⟨lo_46, List.forall_mem_cons.mpr ⟨lo_47, List.forall_mem_cons.mpr ⟨lo_48, List.forall_mem_cons.mpr ⟨lo_49, List.forall_mem_cons.mpr ⟨lo_50, List.forall_mem_cons.mpr ⟨lo_51, List.forall_mem_cons.mpr ⟨lo_52, List.forall_mem_cons.mpr ⟨lo_53, List.forall_mem_cons.mpr ⟨lo_54, List.forall_mem_cons.mpr ⟨lo_55, List.forall_mem_cons.mpr ⟨lo_56, List.forall_mem_cons.mpr ⟨lo_57, List.forall_mem_cons.mpr ⟨lo_58, List.forall_mem_cons.mpr ⟨lo_59, List.forall_mem_cons.mpr ⟨lo_60, List.forall_mem_cons.mpr ⟨lo_61, List.forall_mem_cons.mpr ⟨lo_62, List.forall_mem_cons.mpr ⟨lo_63, List.forall_mem_cons.mpr ⟨lo_64, List.forall_mem_cons.mpr ⟨lo_65, List.forall_mem_cons.mpr ⟨lo_66, List.forall_mem_cons.mpr ⟨lo_67, List.forall_mem_cons.mpr ⟨lo_68, fun _ h => absurd h List.not_mem_nil⟩⟩⟩⟩⟩⟩⟩⟩⟩⟩⟩⟩⟩⟩⟩⟩⟩⟩⟩⟩⟩⟩⟩⟩⟩⟩⟩⟩⟩⟩⟩⟩⟩⟩⟩⟩⟩⟩⟩⟩⟩⟩⟩⟩⟩⟩⟩⟩⟩⟩⟩⟩⟩⟩⟩⟩⟩⟩⟩⟩⟩⟩⟩⟩⟩⟩⟩⟩⟩
def loffs : Array Int := #[291, 354, 377, 390, 413, 446, 479, 512, 535, 568, 591, 614, 637, 660, 683, 706, 729, 752, 785, 798, 811, 824, 847, 870, 893, 916, 929, 942, 965, 978, 1001, 1014, 1037, 1060, 1083, 1106, 1129, 1152, 1185, 1228, 1261, 1284, 1317, 1350, 1363, 1386, 1409, 1432, 1455, 1478, 1491, 1504, 1537, 1560, 1594, 1617, 1650, 1683, 1716, 1729, 1742, 1775, 1818, 1841, 1864, 1887, 1910, 1953, 2026]
theorem loffs_ok : loffs.toList = lcs.map (fun q => (q.1 : Int) - 33) := by decide +kernel
theorem dl_0 : decode code 0 = .ok (.new 7, 3) := by decide +kernel
theorem dl_3 : decode code 3 = .ok (.dup, 1) := by decide +kernel
theorem dl_4 : decode code 4 = .ok (.invokespecial 9, 3) := by decide +kernel
theorem dl_7 : decode code 7 = .ok (.astore_n 1, 1) := by decide +kernel
theorem dl_8 : decode code 8 = .ok (.new 10, 3) := by decide +kernel
theorem dl_11 : decode code 11 = .ok (.dup, 1) := by decide +kernel
theorem dl_12 : decode code 12 = .ok (.invokespecial 12, 3) := by decide +kernel
theorem dl_15 : decode code 15 = .ok (.astore_n 2, 1) := by decide +kernel
theorem dl_16 : decode code 16 = .ok (.iconst 0, 1) := by decide +kernel
theorem dl_17 : decode code 17 = .ok (.istore_n 3, 1) := by decide +kernel
theorem dl_18 : decode code 18 = .ok (.iload_n 3, 1) := by decide +kernel
theorem dl_19 : decode code 19 = .ok (.aload_n 0, 1) := by decide +kernel
theorem dl_20 : decode code 20 = .ok (.arraylength, 1) := by decide +kernel
theorem dl_21 : decode code 21 = .ok (.bipush 6, 2) := by decide +kernel
theorem dl_23 : decode code 23 = .ok (.isub, 1) := by decide +kernel
theorem dl_24 : decode code 24 = .ok (.if_icmp .gt 2104, 3) := by decide +kernel
theorem dl_27 : decode code 27 = .ok (.aload_n 0, 1) := by decide +kernel
theorem dl_28 : decode code 28 = .ok (.iload_n 3, 1) := by decide +kernel
theorem dl_29 : decode code 29 = .ok (.iaload, 1) := by decide +kernel
theorem dl_30 : decode code 30 = .ok (.bipush 127, 2) := by decide +kernel
theorem dl_32 : decode code 32 = .ok (.iand, 1) := by decide +kernel
theorem dl_33 : decode code 33 = .ok (.tableswitch 2089 0 68 loffs, 291) := by decide +kernel
theorem dl_2122 : decode code 2122 = .ok (.iinc 3 6, 3) := by decide +kernel
theorem dl_2125 : decode code 2125 = .ok (.goto (-2107), 3) := by decide +kernel
theorem dl_2128 : decode code 2128 = .ok (.iconst 1, 1) := by decide +kernel
theorem dl_2129 : decode code 2129 = .ok (.ireturn, 1) := by decide +kernel
theorem wl_7 : Cond.classLink "SilenceMatchLaw" 7 "SilenceMatch" ∈ k_lg := kwd_ok (p := 117) (by decide +kernel)
theorem wl_10 : Cond.classLink "SilenceMatchLaw" 10 "SilenceMatchModel" ∈ k_lg := kwd_ok (p := 1216) (by decide +kernel)
theorem wl_9 : Cond.methodLink "SilenceMatchLaw" 9 ce_9.1.1 ∈ k_lg := kwd_ok (p := 119) (by decide +kernel)
theorem wl_12 : Cond.methodLink "SilenceMatchLaw" 12 ce_10.1.1 ∈ k_lg := kwd_ok (p := 1218) (by decide +kernel)
theorem wl_287 : Cond.constantLong "SilenceMatchLaw" 287 4294967295 ∈ k_lg := kwd_ok (p := 1934) (by decide +kernel)
theorem wl_i9 : Cond.initialized "SilenceMatch" ∈ k_lg := kwd_ok (p := 99) (by decide +kernel)
theorem wl_i10 : Cond.initialized "SilenceMatchModel" ∈ k_lg := kwd_ok (p := 109) (by decide +kernel)
