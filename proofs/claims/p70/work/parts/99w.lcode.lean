/-! the code of the law's cases (printed by wip/p68/gen2/lawgen3.py) -/
theorem ld_0 : lcdP code 324 5 false 13 17 := by
  unfold lcdP
  decide +kernel
theorem ld_1 : lcdP code 387 1 false 18 22 := by
  unfold lcdP
  decide +kernel
theorem ld_2 : lcdP code 410 0 false 23 27 := by
  unfold lcdP
  decide +kernel
theorem ld_3 : lcdP code 423 1 false 28 31 := by
  unfold lcdP
  decide +kernel
theorem ld_4 : lcdP code 446 2 false 32 36 := by
  unfold lcdP
  decide +kernel
theorem ld_5 : lcdP code 479 2 false 37 40 := by
  unfold lcdP
  decide +kernel
theorem ld_6 : lcdP code 512 2 false 41 44 := by
  unfold lcdP
  decide +kernel
theorem ld_7 : lcdP code 545 1 false 45 48 := by
  unfold lcdP
  decide +kernel
theorem ld_8 : lcdP code 568 2 false 49 52 := by
  unfold lcdP
  decide +kernel
theorem ld_9 : lcdP code 601 1 false 53 56 := by
  unfold lcdP
  decide +kernel
theorem ld_10 : lcdP code 624 1 false 57 60 := by
  unfold lcdP
  decide +kernel
theorem ld_11 : lcdP code 647 1 false 61 64 := by
  unfold lcdP
  decide +kernel
theorem ld_12 : lcdP code 670 1 false 65 68 := by
  unfold lcdP
  decide +kernel
theorem ld_13 : lcdP code 693 1 false 69 72 := by
  unfold lcdP
  decide +kernel
theorem ld_14 : lcdP code 716 1 false 73 76 := by
  unfold lcdP
  decide +kernel
theorem ld_15 : lcdP code 739 1 false 77 80 := by
  unfold lcdP
  decide +kernel
theorem ld_16 : lcdP code 762 1 false 81 84 := by
  unfold lcdP
  decide +kernel
theorem ld_17 : lcdP code 785 2 false 85 88 := by
  unfold lcdP
  decide +kernel
theorem ld_18 : lcdP code 818 0 false 89 92 := by
  unfold lcdP
  decide +kernel
theorem ld_19 : lcdP code 831 0 false 93 96 := by
  unfold lcdP
  decide +kernel
theorem ld_20 : lcdP code 844 0 false 97 100 := by
  unfold lcdP
  decide +kernel
theorem ld_21 : lcdP code 857 1 false 101 104 := by
  unfold lcdP
  decide +kernel
theorem ld_22 : lcdP code 880 1 false 105 108 := by
  unfold lcdP
  decide +kernel
theorem ld_23 : lcdP code 903 1 false 109 112 := by
  unfold lcdP
  decide +kernel
theorem ld_24 : lcdP code 926 1 false 113 116 := by
  unfold lcdP
  decide +kernel
theorem ld_25 : lcdP code 949 0 false 117 120 := by
  unfold lcdP
  decide +kernel
theorem ld_26 : lcdP code 962 0 false 121 124 := by
  unfold lcdP
  decide +kernel
theorem ld_27 : lcdP code 975 1 false 125 128 := by
  unfold lcdP
  decide +kernel
theorem ld_28 : lcdP code 998 0 false 129 132 := by
  unfold lcdP
  decide +kernel
theorem ld_29 : lcdP code 1011 1 false 133 136 := by
  unfold lcdP
  decide +kernel
theorem ld_30 : lcdP code 1034 0 false 137 140 := by
  unfold lcdP
  decide +kernel
theorem ld_31 : lcdP code 1047 1 false 141 144 := by
  unfold lcdP
  decide +kernel
theorem ld_32 : lcdP code 1070 1 false 145 148 := by
  unfold lcdP
  decide +kernel
theorem ld_33 : lcdP code 1093 1 false 149 152 := by
  unfold lcdP
  decide +kernel
theorem ld_34 : lcdP code 1116 1 false 153 156 := by
  unfold lcdP
  decide +kernel
theorem ld_35 : lcdP code 1139 1 false 157 160 := by
  unfold lcdP
  decide +kernel
theorem ld_36 : lcdP code 1162 1 false 161 164 := by
  unfold lcdP
  decide +kernel
theorem ld_37 : lcdP code 1185 2 false 165 168 := by
  unfold lcdP
  decide +kernel
theorem ld_38 : lcdP code 1218 3 false 169 173 := by
  unfold lcdP
  decide +kernel
theorem ld_39 : lcdP code 1261 2 false 174 177 := by
  unfold lcdP
  decide +kernel
theorem ld_40 : lcdP code 1294 1 false 178 181 := by
  unfold lcdP
  decide +kernel
theorem ld_41 : lcdP code 1317 2 false 182 185 := by
  unfold lcdP
  decide +kernel
theorem ld_42 : lcdP code 1350 2 false 186 189 := by
  unfold lcdP
  decide +kernel
theorem ld_43 : lcdP code 1383 0 false 190 193 := by
  unfold lcdP
  decide +kernel
theorem ld_44 : lcdP code 1396 1 false 194 197 := by
  unfold lcdP
  decide +kernel
theorem ld_45 : lcdP code 1419 1 false 198 201 := by
  unfold lcdP
  decide +kernel
theorem ld_46 : lcdP code 1442 1 false 202 205 := by
  unfold lcdP
  decide +kernel
theorem ld_47 : lcdP code 1465 1 false 206 209 := by
  unfold lcdP
  decide +kernel
theorem ld_48 : lcdP code 1488 1 false 210 213 := by
  unfold lcdP
  decide +kernel
theorem ld_49 : lcdP code 1511 0 false 214 217 := by
  unfold lcdP
  decide +kernel
theorem ld_50 : lcdP code 1524 0 false 218 221 := by
  unfold lcdP
  decide +kernel
theorem ld_51 : lcdP code 1537 2 false 222 225 := by
  unfold lcdP
  decide +kernel
theorem ld_52 : lcdP code 1570 1 false 226 229 := by
  unfold lcdP
  decide +kernel
theorem ld_53 : lcdP code 1593 2 true 230 234 := by
  unfold lcdP
  decide +kernel
theorem ld_54 : lcdP code 1626 1 false 235 238 := by
  unfold lcdP
  decide +kernel
theorem ld_55 : lcdP code 1649 2 false 239 242 := by
  unfold lcdP
  decide +kernel
theorem ld_56 : lcdP code 1682 2 false 243 246 := by
  unfold lcdP
  decide +kernel
theorem ld_57 : lcdP code 1715 2 false 247 250 := by
  unfold lcdP
  decide +kernel
theorem ld_58 : lcdP code 1748 0 false 251 254 := by
  unfold lcdP
  decide +kernel
theorem ld_59 : lcdP code 1761 0 false 255 258 := by
  unfold lcdP
  decide +kernel
theorem ld_60 : lcdP code 1774 2 false 259 262 := by
  unfold lcdP
  decide +kernel
theorem ld_61 : lcdP code 1807 3 false 263 266 := by
  unfold lcdP
  decide +kernel
theorem ld_62 : lcdP code 1850 1 false 267 270 := by
  unfold lcdP
  decide +kernel
theorem ld_63 : lcdP code 1873 1 false 271 274 := by
  unfold lcdP
  decide +kernel
theorem ld_64 : lcdP code 1896 1 false 275 278 := by
  unfold lcdP
  decide +kernel
theorem ld_65 : lcdP code 1919 1 false 279 282 := by
  unfold lcdP
  decide +kernel
theorem ld_66 : lcdP code 1942 3 false 283 286 := by
  unfold lcdP
  decide +kernel
theorem ld_67 : lcdP code 1985 9 false 289 293 := by
  unfold lcdP
  decide +kernel
theorem ld_68 : lcdR code 2058 5 294 297 := by
  unfold lcdR
  decide +kernel
