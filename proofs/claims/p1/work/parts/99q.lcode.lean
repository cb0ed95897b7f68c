/-! the code of the law's cases (printed by wip/p1/gen/lawgen.py) -/
theorem ld_0 : lcdok code 324 5 false 13 17 := by
  unfold lcdok
  decide +kernel
theorem ld_1 : lcdok code 387 1 false 18 22 := by
  unfold lcdok
  decide +kernel
theorem ld_2 : lcdok code 410 0 false 23 27 := by
  unfold lcdok
  decide +kernel
theorem ld_3 : lcdok code 423 1 false 28 31 := by
  unfold lcdok
  decide +kernel
theorem ld_4 : lcdok code 446 2 false 32 36 := by
  unfold lcdok
  decide +kernel
theorem ld_5 : lcdok code 479 2 false 37 40 := by
  unfold lcdok
  decide +kernel
theorem ld_6 : lcdok code 512 2 false 41 44 := by
  unfold lcdok
  decide +kernel
theorem ld_7 : lcdok code 545 1 false 45 48 := by
  unfold lcdok
  decide +kernel
theorem ld_8 : lcdok code 568 2 false 49 52 := by
  unfold lcdok
  decide +kernel
theorem ld_9 : lcdok code 601 1 false 53 56 := by
  unfold lcdok
  decide +kernel
theorem ld_10 : lcdok code 624 1 false 57 60 := by
  unfold lcdok
  decide +kernel
theorem ld_11 : lcdok code 647 1 false 61 64 := by
  unfold lcdok
  decide +kernel
theorem ld_12 : lcdok code 670 1 false 65 68 := by
  unfold lcdok
  decide +kernel
theorem ld_13 : lcdok code 693 1 false 69 72 := by
  unfold lcdok
  decide +kernel
theorem ld_14 : lcdok code 716 1 false 73 76 := by
  unfold lcdok
  decide +kernel
theorem ld_15 : lcdok code 739 1 false 77 80 := by
  unfold lcdok
  decide +kernel
theorem ld_16 : lcdok code 762 1 false 81 84 := by
  unfold lcdok
  decide +kernel
theorem ld_17 : lcdok code 785 2 false 85 88 := by
  unfold lcdok
  decide +kernel
theorem ld_18 : lcdok code 818 0 false 89 92 := by
  unfold lcdok
  decide +kernel
theorem ld_19 : lcdok code 831 0 false 93 96 := by
  unfold lcdok
  decide +kernel
theorem ld_20 : lcdok code 844 0 false 97 100 := by
  unfold lcdok
  decide +kernel
theorem ld_21 : lcdok code 857 1 false 101 104 := by
  unfold lcdok
  decide +kernel
theorem ld_22 : lcdok code 880 1 false 105 108 := by
  unfold lcdok
  decide +kernel
theorem ld_23 : lcdok code 903 1 false 109 112 := by
  unfold lcdok
  decide +kernel
theorem ld_24 : lcdok code 926 1 false 113 116 := by
  unfold lcdok
  decide +kernel
theorem ld_25 : lcdok code 949 0 false 117 120 := by
  unfold lcdok
  decide +kernel
theorem ld_26 : lcdok code 962 0 false 121 124 := by
  unfold lcdok
  decide +kernel
theorem ld_27 : lcdok code 975 1 false 125 128 := by
  unfold lcdok
  decide +kernel
theorem ld_28 : lcdok code 998 0 false 129 132 := by
  unfold lcdok
  decide +kernel
theorem ld_29 : lcdok code 1011 1 false 133 136 := by
  unfold lcdok
  decide +kernel
theorem ld_30 : lcdok code 1034 0 false 137 140 := by
  unfold lcdok
  decide +kernel
theorem ld_31 : lcdok code 1047 1 false 141 144 := by
  unfold lcdok
  decide +kernel
theorem ld_32 : lcdok code 1070 1 false 145 148 := by
  unfold lcdok
  decide +kernel
theorem ld_33 : lcdok code 1093 1 false 149 152 := by
  unfold lcdok
  decide +kernel
theorem ld_34 : lcdok code 1116 1 false 153 156 := by
  unfold lcdok
  decide +kernel
theorem ld_35 : lcdok code 1139 1 false 157 160 := by
  unfold lcdok
  decide +kernel
theorem ld_36 : lcdok code 1162 1 false 161 164 := by
  unfold lcdok
  decide +kernel
theorem ld_37 : lcdok code 1185 2 false 165 168 := by
  unfold lcdok
  decide +kernel
theorem ld_38 : lcdok code 1218 3 false 169 173 := by
  unfold lcdok
  decide +kernel
theorem ld_39 : lcdok code 1261 2 false 174 177 := by
  unfold lcdok
  decide +kernel
theorem ld_40 : lcdok code 1294 1 false 178 181 := by
  unfold lcdok
  decide +kernel
theorem ld_41 : lcdok code 1317 2 false 182 185 := by
  unfold lcdok
  decide +kernel
theorem ld_42 : lcdok code 1350 2 false 186 189 := by
  unfold lcdok
  decide +kernel
theorem ld_43 : lcdok code 1383 0 false 190 193 := by
  unfold lcdok
  decide +kernel
theorem ld_44 : lcdok code 1396 1 false 194 197 := by
  unfold lcdok
  decide +kernel
theorem ld_45 : lcdok code 1419 1 false 198 201 := by
  unfold lcdok
  decide +kernel
theorem ld_46 : lcdok code 1442 1 false 202 205 := by
  unfold lcdok
  decide +kernel
theorem ld_47 : lcdok code 1465 1 false 206 209 := by
  unfold lcdok
  decide +kernel
theorem ld_48 : lcdok code 1488 1 false 210 213 := by
  unfold lcdok
  decide +kernel
theorem ld_49 : lcdok code 1511 0 false 214 217 := by
  unfold lcdok
  decide +kernel
theorem ld_50 : lcdok code 1524 0 false 218 221 := by
  unfold lcdok
  decide +kernel
theorem ld_51 : lcdok code 1537 2 false 222 225 := by
  unfold lcdok
  decide +kernel
theorem ld_52 : lcdok code 1570 1 false 226 229 := by
  unfold lcdok
  decide +kernel
theorem ld_53 : lcdok code 1593 2 true 230 234 := by
  unfold lcdok
  decide +kernel
theorem ld_54 : lcdok code 1627 1 false 235 238 := by
  unfold lcdok
  decide +kernel
theorem ld_55 : lcdok code 1650 2 false 239 242 := by
  unfold lcdok
  decide +kernel
theorem ld_56 : lcdok code 1683 2 false 243 246 := by
  unfold lcdok
  decide +kernel
theorem ld_57 : lcdok code 1716 2 false 247 250 := by
  unfold lcdok
  decide +kernel
theorem ld_58 : lcdok code 1749 0 false 251 254 := by
  unfold lcdok
  decide +kernel
theorem ld_59 : lcdok code 1762 0 false 255 258 := by
  unfold lcdok
  decide +kernel
theorem ld_60 : lcdok code 1775 2 false 259 262 := by
  unfold lcdok
  decide +kernel
theorem ld_61 : lcdok code 1808 3 false 263 266 := by
  unfold lcdok
  decide +kernel
theorem ld_62 : lcdok code 1851 1 false 267 270 := by
  unfold lcdok
  decide +kernel
theorem ld_63 : lcdok code 1874 1 false 271 274 := by
  unfold lcdok
  decide +kernel
theorem ld_64 : lcdok code 1897 1 false 275 278 := by
  unfold lcdok
  decide +kernel
theorem ld_65 : lcdok code 1920 1 false 279 282 := by
  unfold lcdok
  decide +kernel
theorem ld_66 : lcdok code 1943 3 false 283 286 := by
  unfold lcdok
  decide +kernel
theorem ld_67 : lcdok code 1986 9 false 289 293 := by
  unfold lcdok
  decide +kernel
theorem ld_68 : lcdok code 2059 5 false 294 297 := by
  unfold lcdok
  decide +kernel
