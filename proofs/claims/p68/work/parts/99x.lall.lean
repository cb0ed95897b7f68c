/-! all cases (printed by wip/p68/gen2/lawgen.py): place, kind of arguments, whether the answer is a long, pool places, kind (0: by the world's two modes, 1: by any, 2: compared) -/
abbrev lCs : Type := Nat × Nat × Bool × Nat × Nat × Nat
def lok (q : lCs) : Prop := lkok q.2.1 ∧ (q.2.2.2.2.2 ≠ 2 → lcdP code q.1 q.2.1 q.2.2.1 q.2.2.2.1 q.2.2.2.2.1) ∧ (q.2.2.2.2.2 = 2 → lcdR code q.1 q.2.1 q.2.2.2.1 q.2.2.2.2.1 ∧ lcaR k_tt k_aty k_ctE owL calR wrW stW lsW q.1 q.2.1 q.2.2.2.1 q.2.2.2.2.1 = true) ∧ (q.2.2.2.2.2 = 0 → lcaP k_tt k_aty k_ct owL calA wrM [] lsA q.1 q.2.1 q.2.2.1 q.2.2.2.1 q.2.2.2.2.1 = true ∧ lcaP k_tt k_aty k_ct owL calB wrM [] lsB q.1 q.2.1 q.2.2.1 q.2.2.2.1 q.2.2.2.2.1 = true) ∧ (q.2.2.2.2.2 = 1 → lcaP k_tt k_aty k_ct owL calW wrW stW lsW q.1 q.2.1 q.2.2.1 q.2.2.2.1 q.2.2.2.2.1 = true) ∧ q.2.2.2.2.2 < 3
theorem lo_0 : lok (324, 5, false, 13, 17, 0) := ⟨Or.inr (Or.inr (Or.inr (Or.inr (Or.inl rfl)))), (fun _ => ld_0), (fun h => by cases h), (fun _ => ⟨lcA_0, lcB_0⟩), (fun h => by cases h), by decide⟩
theorem lo_1 : lok (387, 1, false, 18, 22, 0) := ⟨Or.inr (Or.inl rfl), (fun _ => ld_1), (fun h => by cases h), (fun _ => ⟨lcA_1, lcB_1⟩), (fun h => by cases h), by decide⟩
theorem lo_2 : lok (410, 0, false, 23, 27, 1) := ⟨Or.inl rfl, (fun _ => ld_2), (fun h => by cases h), (fun h => by cases h), (fun _ => lcW_2), by decide⟩
theorem lo_3 : lok (423, 1, false, 28, 31, 0) := ⟨Or.inr (Or.inl rfl), (fun _ => ld_3), (fun h => by cases h), (fun _ => ⟨lcA_3, lcB_3⟩), (fun h => by cases h), by decide⟩
theorem lo_4 : lok (446, 2, false, 32, 36, 0) := ⟨Or.inr (Or.inr (Or.inl rfl)), (fun _ => ld_4), (fun h => by cases h), (fun _ => ⟨lcA_4, lcB_4⟩), (fun h => by cases h), by decide⟩
theorem lo_5 : lok (479, 2, false, 37, 40, 0) := ⟨Or.inr (Or.inr (Or.inl rfl)), (fun _ => ld_5), (fun h => by cases h), (fun _ => ⟨lcA_5, lcB_5⟩), (fun h => by cases h), by decide⟩
theorem lo_6 : lok (512, 2, false, 41, 44, 0) := ⟨Or.inr (Or.inr (Or.inl rfl)), (fun _ => ld_6), (fun h => by cases h), (fun _ => ⟨lcA_6, lcB_6⟩), (fun h => by cases h), by decide⟩
theorem lo_7 : lok (545, 1, false, 45, 48, 0) := ⟨Or.inr (Or.inl rfl), (fun _ => ld_7), (fun h => by cases h), (fun _ => ⟨lcA_7, lcB_7⟩), (fun h => by cases h), by decide⟩
theorem lo_8 : lok (568, 2, false, 49, 52, 0) := ⟨Or.inr (Or.inr (Or.inl rfl)), (fun _ => ld_8), (fun h => by cases h), (fun _ => ⟨lcA_8, lcB_8⟩), (fun h => by cases h), by decide⟩
theorem lo_9 : lok (601, 1, false, 53, 56, 0) := ⟨Or.inr (Or.inl rfl), (fun _ => ld_9), (fun h => by cases h), (fun _ => ⟨lcA_9, lcB_9⟩), (fun h => by cases h), by decide⟩
theorem lo_10 : lok (624, 1, false, 57, 60, 0) := ⟨Or.inr (Or.inl rfl), (fun _ => ld_10), (fun h => by cases h), (fun _ => ⟨lcA_10, lcB_10⟩), (fun h => by cases h), by decide⟩
theorem lo_11 : lok (647, 1, false, 61, 64, 0) := ⟨Or.inr (Or.inl rfl), (fun _ => ld_11), (fun h => by cases h), (fun _ => ⟨lcA_11, lcB_11⟩), (fun h => by cases h), by decide⟩
theorem lo_12 : lok (670, 1, false, 65, 68, 0) := ⟨Or.inr (Or.inl rfl), (fun _ => ld_12), (fun h => by cases h), (fun _ => ⟨lcA_12, lcB_12⟩), (fun h => by cases h), by decide⟩
theorem lo_13 : lok (693, 1, false, 69, 72, 0) := ⟨Or.inr (Or.inl rfl), (fun _ => ld_13), (fun h => by cases h), (fun _ => ⟨lcA_13, lcB_13⟩), (fun h => by cases h), by decide⟩
theorem lo_14 : lok (716, 1, false, 73, 76, 0) := ⟨Or.inr (Or.inl rfl), (fun _ => ld_14), (fun h => by cases h), (fun _ => ⟨lcA_14, lcB_14⟩), (fun h => by cases h), by decide⟩
theorem lo_15 : lok (739, 1, false, 77, 80, 0) := ⟨Or.inr (Or.inl rfl), (fun _ => ld_15), (fun h => by cases h), (fun _ => ⟨lcA_15, lcB_15⟩), (fun h => by cases h), by decide⟩
theorem lo_16 : lok (762, 1, false, 81, 84, 0) := ⟨Or.inr (Or.inl rfl), (fun _ => ld_16), (fun h => by cases h), (fun _ => ⟨lcA_16, lcB_16⟩), (fun h => by cases h), by decide⟩
theorem lo_17 : lok (785, 2, false, 85, 88, 0) := ⟨Or.inr (Or.inr (Or.inl rfl)), (fun _ => ld_17), (fun h => by cases h), (fun _ => ⟨lcA_17, lcB_17⟩), (fun h => by cases h), by decide⟩
theorem lo_18 : lok (818, 0, false, 89, 92, 0) := ⟨Or.inl rfl, (fun _ => ld_18), (fun h => by cases h), (fun _ => ⟨lcA_18, lcB_18⟩), (fun h => by cases h), by decide⟩
theorem lo_19 : lok (831, 0, false, 93, 96, 0) := ⟨Or.inl rfl, (fun _ => ld_19), (fun h => by cases h), (fun _ => ⟨lcA_19, lcB_19⟩), (fun h => by cases h), by decide⟩
theorem lo_20 : lok (844, 0, false, 97, 100, 0) := ⟨Or.inl rfl, (fun _ => ld_20), (fun h => by cases h), (fun _ => ⟨lcA_20, lcB_20⟩), (fun h => by cases h), by decide⟩
theorem lo_21 : lok (857, 1, false, 101, 104, 0) := ⟨Or.inr (Or.inl rfl), (fun _ => ld_21), (fun h => by cases h), (fun _ => ⟨lcA_21, lcB_21⟩), (fun h => by cases h), by decide⟩
theorem lo_22 : lok (880, 1, false, 105, 108, 0) := ⟨Or.inr (Or.inl rfl), (fun _ => ld_22), (fun h => by cases h), (fun _ => ⟨lcA_22, lcB_22⟩), (fun h => by cases h), by decide⟩
theorem lo_23 : lok (903, 1, false, 109, 112, 0) := ⟨Or.inr (Or.inl rfl), (fun _ => ld_23), (fun h => by cases h), (fun _ => ⟨lcA_23, lcB_23⟩), (fun h => by cases h), by decide⟩
theorem lo_24 : lok (926, 1, false, 113, 116, 0) := ⟨Or.inr (Or.inl rfl), (fun _ => ld_24), (fun h => by cases h), (fun _ => ⟨lcA_24, lcB_24⟩), (fun h => by cases h), by decide⟩
theorem lo_25 : lok (949, 0, false, 117, 120, 0) := ⟨Or.inl rfl, (fun _ => ld_25), (fun h => by cases h), (fun _ => ⟨lcA_25, lcB_25⟩), (fun h => by cases h), by decide⟩
theorem lo_26 : lok (962, 0, false, 121, 124, 0) := ⟨Or.inl rfl, (fun _ => ld_26), (fun h => by cases h), (fun _ => ⟨lcA_26, lcB_26⟩), (fun h => by cases h), by decide⟩
theorem lo_27 : lok (975, 1, false, 125, 128, 0) := ⟨Or.inr (Or.inl rfl), (fun _ => ld_27), (fun h => by cases h), (fun _ => ⟨lcA_27, lcB_27⟩), (fun h => by cases h), by decide⟩
theorem lo_28 : lok (998, 0, false, 129, 132, 0) := ⟨Or.inl rfl, (fun _ => ld_28), (fun h => by cases h), (fun _ => ⟨lcA_28, lcB_28⟩), (fun h => by cases h), by decide⟩
theorem lo_29 : lok (1011, 1, false, 133, 136, 0) := ⟨Or.inr (Or.inl rfl), (fun _ => ld_29), (fun h => by cases h), (fun _ => ⟨lcA_29, lcB_29⟩), (fun h => by cases h), by decide⟩
theorem lo_30 : lok (1034, 0, false, 137, 140, 0) := ⟨Or.inl rfl, (fun _ => ld_30), (fun h => by cases h), (fun _ => ⟨lcA_30, lcB_30⟩), (fun h => by cases h), by decide⟩
theorem lo_31 : lok (1047, 1, false, 141, 144, 0) := ⟨Or.inr (Or.inl rfl), (fun _ => ld_31), (fun h => by cases h), (fun _ => ⟨lcA_31, lcB_31⟩), (fun h => by cases h), by decide⟩
theorem lo_32 : lok (1070, 1, false, 145, 148, 0) := ⟨Or.inr (Or.inl rfl), (fun _ => ld_32), (fun h => by cases h), (fun _ => ⟨lcA_32, lcB_32⟩), (fun h => by cases h), by decide⟩
theorem lo_33 : lok (1093, 1, false, 149, 152, 0) := ⟨Or.inr (Or.inl rfl), (fun _ => ld_33), (fun h => by cases h), (fun _ => ⟨lcA_33, lcB_33⟩), (fun h => by cases h), by decide⟩
theorem lo_34 : lok (1116, 1, false, 153, 156, 0) := ⟨Or.inr (Or.inl rfl), (fun _ => ld_34), (fun h => by cases h), (fun _ => ⟨lcA_34, lcB_34⟩), (fun h => by cases h), by decide⟩
theorem lo_35 : lok (1139, 1, false, 157, 160, 0) := ⟨Or.inr (Or.inl rfl), (fun _ => ld_35), (fun h => by cases h), (fun _ => ⟨lcA_35, lcB_35⟩), (fun h => by cases h), by decide⟩
theorem lo_36 : lok (1162, 1, false, 161, 164, 0) := ⟨Or.inr (Or.inl rfl), (fun _ => ld_36), (fun h => by cases h), (fun _ => ⟨lcA_36, lcB_36⟩), (fun h => by cases h), by decide⟩
theorem lo_37 : lok (1185, 2, false, 165, 168, 0) := ⟨Or.inr (Or.inr (Or.inl rfl)), (fun _ => ld_37), (fun h => by cases h), (fun _ => ⟨lcA_37, lcB_37⟩), (fun h => by cases h), by decide⟩
theorem lo_38 : lok (1218, 3, false, 169, 173, 0) := ⟨Or.inr (Or.inr (Or.inr (Or.inl rfl))), (fun _ => ld_38), (fun h => by cases h), (fun _ => ⟨lcA_38, lcB_38⟩), (fun h => by cases h), by decide⟩
theorem lo_39 : lok (1261, 2, false, 174, 177, 0) := ⟨Or.inr (Or.inr (Or.inl rfl)), (fun _ => ld_39), (fun h => by cases h), (fun _ => ⟨lcA_39, lcB_39⟩), (fun h => by cases h), by decide⟩
theorem lo_40 : lok (1294, 1, false, 178, 181, 0) := ⟨Or.inr (Or.inl rfl), (fun _ => ld_40), (fun h => by cases h), (fun _ => ⟨lcA_40, lcB_40⟩), (fun h => by cases h), by decide⟩
theorem lo_41 : lok (1317, 2, false, 182, 185, 0) := ⟨Or.inr (Or.inr (Or.inl rfl)), (fun _ => ld_41), (fun h => by cases h), (fun _ => ⟨lcA_41, lcB_41⟩), (fun h => by cases h), by decide⟩
theorem lo_42 : lok (1350, 2, false, 186, 189, 0) := ⟨Or.inr (Or.inr (Or.inl rfl)), (fun _ => ld_42), (fun h => by cases h), (fun _ => ⟨lcA_42, lcB_42⟩), (fun h => by cases h), by decide⟩
theorem lo_43 : lok (1383, 0, false, 190, 193, 0) := ⟨Or.inl rfl, (fun _ => ld_43), (fun h => by cases h), (fun _ => ⟨lcA_43, lcB_43⟩), (fun h => by cases h), by decide⟩
theorem lo_44 : lok (1396, 1, false, 194, 197, 0) := ⟨Or.inr (Or.inl rfl), (fun _ => ld_44), (fun h => by cases h), (fun _ => ⟨lcA_44, lcB_44⟩), (fun h => by cases h), by decide⟩
theorem lo_45 : lok (1419, 1, false, 198, 201, 0) := ⟨Or.inr (Or.inl rfl), (fun _ => ld_45), (fun h => by cases h), (fun _ => ⟨lcA_45, lcB_45⟩), (fun h => by cases h), by decide⟩
theorem lo_46 : lok (1442, 1, false, 202, 205, 0) := ⟨Or.inr (Or.inl rfl), (fun _ => ld_46), (fun h => by cases h), (fun _ => ⟨lcA_46, lcB_46⟩), (fun h => by cases h), by decide⟩
theorem lo_47 : lok (1465, 1, false, 206, 209, 0) := ⟨Or.inr (Or.inl rfl), (fun _ => ld_47), (fun h => by cases h), (fun _ => ⟨lcA_47, lcB_47⟩), (fun h => by cases h), by decide⟩
theorem lo_48 : lok (1488, 1, false, 210, 213, 0) := ⟨Or.inr (Or.inl rfl), (fun _ => ld_48), (fun h => by cases h), (fun _ => ⟨lcA_48, lcB_48⟩), (fun h => by cases h), by decide⟩
theorem lo_49 : lok (1511, 0, false, 214, 217, 0) := ⟨Or.inl rfl, (fun _ => ld_49), (fun h => by cases h), (fun _ => ⟨lcA_49, lcB_49⟩), (fun h => by cases h), by decide⟩
theorem lo_50 : lok (1524, 0, false, 218, 221, 0) := ⟨Or.inl rfl, (fun _ => ld_50), (fun h => by cases h), (fun _ => ⟨lcA_50, lcB_50⟩), (fun h => by cases h), by decide⟩
theorem lo_51 : lok (1537, 2, false, 222, 225, 0) := ⟨Or.inr (Or.inr (Or.inl rfl)), (fun _ => ld_51), (fun h => by cases h), (fun _ => ⟨lcA_51, lcB_51⟩), (fun h => by cases h), by decide⟩
theorem lo_52 : lok (1570, 1, false, 226, 229, 0) := ⟨Or.inr (Or.inl rfl), (fun _ => ld_52), (fun h => by cases h), (fun _ => ⟨lcA_52, lcB_52⟩), (fun h => by cases h), by decide⟩
theorem lo_53 : lok (1593, 2, true, 230, 234, 0) := ⟨Or.inr (Or.inr (Or.inl rfl)), (fun _ => ld_53), (fun h => by cases h), (fun _ => ⟨lcA_53, lcB_53⟩), (fun h => by cases h), by decide⟩
theorem lo_54 : lok (1626, 1, false, 235, 238, 0) := ⟨Or.inr (Or.inl rfl), (fun _ => ld_54), (fun h => by cases h), (fun _ => ⟨lcA_54, lcB_54⟩), (fun h => by cases h), by decide⟩
theorem lo_55 : lok (1649, 2, false, 239, 242, 0) := ⟨Or.inr (Or.inr (Or.inl rfl)), (fun _ => ld_55), (fun h => by cases h), (fun _ => ⟨lcA_55, lcB_55⟩), (fun h => by cases h), by decide⟩
theorem lo_56 : lok (1682, 2, false, 243, 246, 0) := ⟨Or.inr (Or.inr (Or.inl rfl)), (fun _ => ld_56), (fun h => by cases h), (fun _ => ⟨lcA_56, lcB_56⟩), (fun h => by cases h), by decide⟩
theorem lo_57 : lok (1715, 2, false, 247, 250, 0) := ⟨Or.inr (Or.inr (Or.inl rfl)), (fun _ => ld_57), (fun h => by cases h), (fun _ => ⟨lcA_57, lcB_57⟩), (fun h => by cases h), by decide⟩
theorem lo_58 : lok (1748, 0, false, 251, 254, 0) := ⟨Or.inl rfl, (fun _ => ld_58), (fun h => by cases h), (fun _ => ⟨lcA_58, lcB_58⟩), (fun h => by cases h), by decide⟩
theorem lo_59 : lok (1761, 0, false, 255, 258, 0) := ⟨Or.inl rfl, (fun _ => ld_59), (fun h => by cases h), (fun _ => ⟨lcA_59, lcB_59⟩), (fun h => by cases h), by decide⟩
theorem lo_60 : lok (1774, 2, false, 259, 262, 0) := ⟨Or.inr (Or.inr (Or.inl rfl)), (fun _ => ld_60), (fun h => by cases h), (fun _ => ⟨lcA_60, lcB_60⟩), (fun h => by cases h), by decide⟩
theorem lo_61 : lok (1807, 3, false, 263, 266, 0) := ⟨Or.inr (Or.inr (Or.inr (Or.inl rfl))), (fun _ => ld_61), (fun h => by cases h), (fun _ => ⟨lcA_61, lcB_61⟩), (fun h => by cases h), by decide⟩
theorem lo_62 : lok (1850, 1, false, 267, 270, 0) := ⟨Or.inr (Or.inl rfl), (fun _ => ld_62), (fun h => by cases h), (fun _ => ⟨lcA_62, lcB_62⟩), (fun h => by cases h), by decide⟩
theorem lo_63 : lok (1873, 1, false, 271, 274, 0) := ⟨Or.inr (Or.inl rfl), (fun _ => ld_63), (fun h => by cases h), (fun _ => ⟨lcA_63, lcB_63⟩), (fun h => by cases h), by decide⟩
theorem lo_64 : lok (1896, 1, false, 275, 278, 1) := ⟨Or.inr (Or.inl rfl), (fun _ => ld_64), (fun h => by cases h), (fun h => by cases h), (fun _ => lcW_64), by decide⟩
theorem lo_65 : lok (1919, 1, false, 279, 282, 1) := ⟨Or.inr (Or.inl rfl), (fun _ => ld_65), (fun h => by cases h), (fun h => by cases h), (fun _ => lcW_65), by decide⟩
theorem lo_66 : lok (1942, 3, false, 283, 286, 2) := ⟨Or.inr (Or.inr (Or.inr (Or.inl rfl))), (fun h => absurd rfl h), (fun _ => ⟨ld_66, lcR_66⟩), (fun h => by cases h), (fun h => by cases h), by decide⟩
theorem lo_67 : lok (1985, 9, false, 289, 293, 0) := ⟨Or.inr (Or.inr (Or.inr (Or.inr (Or.inr rfl)))), (fun _ => ld_67), (fun h => by cases h), (fun _ => ⟨lcA_67, lcB_67⟩), (fun h => by cases h), by decide⟩
theorem lo_68 : lok (2058, 5, false, 294, 297, 0) := ⟨Or.inr (Or.inr (Or.inr (Or.inr (Or.inl rfl)))), (fun _ => ld_68), (fun h => by cases h), (fun _ => ⟨lcA_68, lcB_68⟩), (fun h => by cases h), by decide⟩
def lcs : List lCs := [(324, 5, false, 13, 17, 0), (387, 1, false, 18, 22, 0), (410, 0, false, 23, 27, 1), (423, 1, false, 28, 31, 0), (446, 2, false, 32, 36, 0), (479, 2, false, 37, 40, 0), (512, 2, false, 41, 44, 0), (545, 1, false, 45, 48, 0), (568, 2, false, 49, 52, 0), (601, 1, false, 53, 56, 0), (624, 1, false, 57, 60, 0), (647, 1, false, 61, 64, 0), (670, 1, false, 65, 68, 0), (693, 1, false, 69, 72, 0), (716, 1, false, 73, 76, 0), (739, 1, false, 77, 80, 0), (762, 1, false, 81, 84, 0), (785, 2, false, 85, 88, 0), (818, 0, false, 89, 92, 0), (831, 0, false, 93, 96, 0), (844, 0, false, 97, 100, 0), (857, 1, false, 101, 104, 0), (880, 1, false, 105, 108, 0), (903, 1, false, 109, 112, 0), (926, 1, false, 113, 116, 0), (949, 0, false, 117, 120, 0), (962, 0, false, 121, 124, 0), (975, 1, false, 125, 128, 0), (998, 0, false, 129, 132, 0), (1011, 1, false, 133, 136, 0), (1034, 0, false, 137, 140, 0), (1047, 1, false, 141, 144, 0), (1070, 1, false, 145, 148, 0), (1093, 1, false, 149, 152, 0), (1116, 1, false, 153, 156, 0), (1139, 1, false, 157, 160, 0), (1162, 1, false, 161, 164, 0), (1185, 2, false, 165, 168, 0), (1218, 3, false, 169, 173, 0), (1261, 2, false, 174, 177, 0), (1294, 1, false, 178, 181, 0), (1317, 2, false, 182, 185, 0), (1350, 2, false, 186, 189, 0), (1383, 0, false, 190, 193, 0), (1396, 1, false, 194, 197, 0), (1419, 1, false, 198, 201, 0), (1442, 1, false, 202, 205, 0), (1465, 1, false, 206, 209, 0), (1488, 1, false, 210, 213, 0), (1511, 0, false, 214, 217, 0), (1524, 0, false, 218, 221, 0), (1537, 2, false, 222, 225, 0), (1570, 1, false, 226, 229, 0), (1593, 2, true, 230, 234, 0), (1626, 1, false, 235, 238, 0), (1649, 2, false, 239, 242, 0), (1682, 2, false, 243, 246, 0), (1715, 2, false, 247, 250, 0), (1748, 0, false, 251, 254, 0), (1761, 0, false, 255, 258, 0), (1774, 2, false, 259, 262, 0), (1807, 3, false, 263, 266, 0), (1850, 1, false, 267, 270, 0), (1873, 1, false, 271, 274, 0), (1896, 1, false, 275, 278, 1), (1919, 1, false, 279, 282, 1), (1942, 3, false, 283, 286, 2), (1985, 9, false, 289, 293, 0), (2058, 5, false, 294, 297, 0)]
theorem lcs_ok : ∀ q ∈ lcs, lok q := List.forall_mem_cons.mpr ⟨lo_0, List.forall_mem_cons.mpr ⟨lo_1, List.forall_mem_cons.mpr ⟨lo_2, List.forall_mem_cons.mpr ⟨lo_3, List.forall_mem_cons.mpr ⟨lo_4, List.forall_mem_cons.mpr ⟨lo_5, List.forall_mem_cons.mpr ⟨lo_6, List.forall_mem_cons.mpr ⟨lo_7, List.forall_mem_cons.mpr ⟨lo_8, List.forall_mem_cons.mpr ⟨lo_9, List.forall_mem_cons.mpr ⟨lo_10, List.forall_mem_cons.mpr ⟨lo_11, List.forall_mem_cons.mpr ⟨lo_12, List.forall_mem_cons.mpr ⟨lo_13, List.forall_mem_cons.mpr ⟨lo_14, List.forall_mem_cons.mpr ⟨lo_15, List.forall_mem_cons.mpr ⟨lo_16, List.forall_mem_cons.mpr ⟨lo_17, List.forall_mem_cons.mpr ⟨lo_18, List.forall_mem_cons.mpr ⟨lo_19, List.forall_mem_cons.mpr ⟨lo_20, List.forall_mem_cons.mpr ⟨lo_21, List.forall_mem_cons.mpr ⟨lo_22, List.forall_mem_cons.mpr ⟨lo_23, List.forall_mem_cons.mpr ⟨lo_24, List.forall_mem_cons.mpr ⟨lo_25, List.forall_mem_cons.mpr ⟨lo_26, List.forall_mem_cons.mpr ⟨lo_27, List.forall_mem_cons.mpr ⟨lo_28, List.forall_mem_cons.mpr ⟨lo_29, List.forall_mem_cons.mpr ⟨lo_30, List.forall_mem_cons.mpr ⟨lo_31, List.forall_mem_cons.mpr ⟨lo_32, List.forall_mem_cons.mpr ⟨lo_33, List.forall_mem_cons.mpr ⟨lo_34, List.forall_mem_cons.mpr ⟨lo_35, List.forall_mem_cons.mpr ⟨lo_36, List.forall_mem_cons.mpr ⟨lo_37, List.forall_mem_cons.mpr ⟨lo_38, List.forall_mem_cons.mpr ⟨lo_39, List.forall_mem_cons.mpr ⟨lo_40, List.forall_mem_cons.mpr ⟨lo_41, List.forall_mem_cons.mpr ⟨lo_42, List.forall_mem_cons.mpr ⟨lo_43, List.forall_mem_cons.mpr ⟨lo_44, List.forall_mem_cons.mpr ⟨lo_45, List.forall_mem_cons.mpr ⟨lo_46, List.forall_mem_cons.mpr ⟨lo_47, List.forall_mem_cons.mpr ⟨lo_48, List.forall_mem_cons.mpr ⟨lo_49, List.forall_mem_cons.mpr ⟨lo_50, List.forall_mem_cons.mpr ⟨lo_51, List.forall_mem_cons.mpr ⟨lo_52, List.forall_mem_cons.mpr ⟨lo_53, List.forall_mem_cons.mpr ⟨lo_54, List.forall_mem_cons.mpr ⟨lo_55, List.forall_mem_cons.mpr ⟨lo_56, List.forall_mem_cons.mpr ⟨lo_57, List.forall_mem_cons.mpr ⟨lo_58, List.forall_mem_cons.mpr ⟨lo_59, List.forall_mem_cons.mpr ⟨lo_60, List.forall_mem_cons.mpr ⟨lo_61, List.forall_mem_cons.mpr ⟨lo_62, List.forall_mem_cons.mpr ⟨lo_63, List.forall_mem_cons.mpr ⟨lo_64, List.forall_mem_cons.mpr ⟨lo_65, List.forall_mem_cons.mpr ⟨lo_66, List.forall_mem_cons.mpr ⟨lo_67, List.forall_mem_cons.mpr ⟨lo_68, fun _ h => absurd h List.not_mem_nil⟩⟩⟩⟩⟩⟩⟩⟩⟩⟩⟩⟩⟩⟩⟩⟩⟩⟩⟩⟩⟩⟩⟩⟩⟩⟩⟩⟩⟩⟩⟩⟩⟩⟩⟩⟩⟩⟩⟩⟩⟩⟩⟩⟩⟩⟩⟩⟩⟩⟩⟩⟩⟩⟩⟩⟩⟩⟩⟩⟩⟩⟩⟩⟩⟩⟩⟩⟩⟩
def loffs : Array Int := #[291, 354, 377, 390, 413, 446, 479, 512, 535, 568, 591, 614, 637, 660, 683, 706, 729, 752, 785, 798, 811, 824, 847, 870, 893, 916, 929, 942, 965, 978, 1001, 1014, 1037, 1060, 1083, 1106, 1129, 1152, 1185, 1228, 1261, 1284, 1317, 1350, 1363, 1386, 1409, 1432, 1455, 1478, 1491, 1504, 1537, 1560, 1593, 1616, 1649, 1682, 1715, 1728, 1741, 1774, 1817, 1840, 1863, 1886, 1909, 1952, 2025]
theorem loffs_ok : loffs.toList = lcs.map (fun q => (q.1 : Int) - 33) := by decide +kernel
theorem dl_0 : decode code 0 = .ok (.new 7, 3) := by decide +kernel
theorem dl_3 : decode code 3 = .ok (.dup, 1) := by decide +kernel
theorem dl_4 : decode code 4 = .ok (.invokespecial 9, 3) := by decide +kernel
theorem dl_7 : decode code 7 = .ok (.astore_n 1, 1) := by decide +kernel
theorem dl_8 : decode code 8 = .ok (.new 10, 3) := by decide +kernel
theorem dl_11 : decode code 11 = .ok (.dup, 1) := by decide +kernel
theorem dl_12 : decode code 12 = .ok (.invokespecial 12, 3) := by decide +kernel
theorem dl_15 : decode code 15 = .ok (.astore_n 2, 1) := by decide +kernel
theorem dl_16 : decode code 16 = .ok (.iconst 0, 1) := by decide +kernel
theorem dl_17 : decode code 17 = .ok (.istore_n 3, 1) := by decide +kernel
theorem dl_18 : decode code 18 = .ok (.iload_n 3, 1) := by decide +kernel
theorem dl_19 : decode code 19 = .ok (.aload_n 0, 1) := by decide +kernel
theorem dl_20 : decode code 20 = .ok (.arraylength, 1) := by decide +kernel
theorem dl_21 : decode code 21 = .ok (.bipush 6, 2) := by decide +kernel
theorem dl_23 : decode code 23 = .ok (.isub, 1) := by decide +kernel
theorem dl_24 : decode code 24 = .ok (.if_icmp .gt 2103, 3) := by decide +kernel
theorem dl_27 : decode code 27 = .ok (.aload_n 0, 1) := by decide +kernel
theorem dl_28 : decode code 28 = .ok (.iload_n 3, 1) := by decide +kernel
theorem dl_29 : decode code 29 = .ok (.iaload, 1) := by decide +kernel
theorem dl_30 : decode code 30 = .ok (.bipush 127, 2) := by decide +kernel
theorem dl_32 : decode code 32 = .ok (.iand, 1) := by decide +kernel
theorem dl_33 : decode code 33 = .ok (.tableswitch 2088 0 68 loffs, 291) := by decide +kernel
theorem dl_2121 : decode code 2121 = .ok (.iinc 3 6, 3) := by decide +kernel
theorem dl_2124 : decode code 2124 = .ok (.goto (-2106), 3) := by decide +kernel
theorem dl_2127 : decode code 2127 = .ok (.iconst 1, 1) := by decide +kernel
theorem dl_2128 : decode code 2128 = .ok (.ireturn, 1) := by decide +kernel
theorem wl_7 : Cond.classLink "SilenceMatchLaw" 7 "SilenceMatch" ∈ k_lg := kwd_ok (p := 117) (by decide +kernel)
theorem wl_10 : Cond.classLink "SilenceMatchLaw" 10 "SilenceMatchModel" ∈ k_lg := kwd_ok (p := 1216) (by decide +kernel)
theorem wl_9 : Cond.methodLink "SilenceMatchLaw" 9 ce_9.1.1 ∈ k_lg := kwd_ok (p := 119) (by decide +kernel)
theorem wl_12 : Cond.methodLink "SilenceMatchLaw" 12 ce_10.1.1 ∈ k_lg := kwd_ok (p := 1218) (by decide +kernel)
theorem wl_287 : Cond.constantLong "SilenceMatchLaw" 287 4294967295 ∈ k_lg := kwd_ok (p := 1934) (by decide +kernel)
theorem wl_i9 : Cond.initialized "SilenceMatch" ∈ k_lg := kwd_ok (p := 99) (by decide +kernel)
theorem wl_i10 : Cond.initialized "SilenceMatchModel" ∈ k_lg := kwd_ok (p := 109) (by decide +kernel)
