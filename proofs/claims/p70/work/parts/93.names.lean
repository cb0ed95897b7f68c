/-! WORDS: names and fields of the classes -/
def kC0 : String := "SilenceMatch$Acts"
def kF0 : u_T := fun k => match k with
  | 0 => ("SilenceMatch$Acts", "count", "I", false)
  | 1 => ("SilenceMatch$Acts", "ofLoud", "[Z", true)
  | 2 => ("SilenceMatch$Acts", "player", "[I", true)
  | _ => ("SilenceMatch$Acts", "was", "[I", true)
def kC1 : String := "SilenceMatch$Cover"
def kF1 : u_T := fun k => match k with
  | 0 => ("SilenceMatch$Cover", "chosen", "[I", true)
  | 1 => ("SilenceMatch$Cover", "size", "I", false)
  | 2 => ("SilenceMatch$Cover", "ball", "[I", true)
  | 3 => ("SilenceMatch$Cover", "all", "I", false)
  | _ => ("SilenceMatch$Cover", "largest", "I", false)
def kC2 : String := "SilenceMatch$Draws"
def kF2 : u_T := fun k => match k with
  | 0 => ("SilenceMatch$Draws", "count", "I", false)
  | 1 => ("SilenceMatch$Draws", "running", "Z", false)
  | 2 => ("SilenceMatch$Draws", "x", "J", false)
  | _ => ("SilenceMatch$Draws", "odds", "I", false)
def kC3 : String := "SilenceMatch$Green"
def kF3 : u_T := fun k => match k with
  | 0 => ("SilenceMatch$Green", "lines", "I", false)
  | 1 => ("SilenceMatch$Green", "wide", "I", false)
  | 2 => ("SilenceMatch$Green", "high", "I", false)
  | 3 => ("SilenceMatch$Green", "bell", "I", false)
  | 4 => ("SilenceMatch$Green", "laugh", "I", false)
  | 5 => ("SilenceMatch$Green", "odds", "I", false)
  | 6 => ("SilenceMatch$Green", "players", "I", false)
  | 7 => ("SilenceMatch$Green", "umpires", "I", false)
  | 8 => ("SilenceMatch$Green", "winds", "I", false)
  | 9 => ("SilenceMatch$Green", "pairs", "I", false)
  | 10 => ("SilenceMatch$Green", "side", "[I", true)
  | 11 => ("SilenceMatch$Green", "cell", "[I", true)
  | 12 => ("SilenceMatch$Green", "loud", "[I", true)
  | 13 => ("SilenceMatch$Green", "every", "[I", true)
  | 14 => ("SilenceMatch$Green", "post", "[I", true)
  | 15 => ("SilenceMatch$Green", "deaf", "[I", true)
  | 16 => ("SilenceMatch$Green", "from", "[I", true)
  | 17 => ("SilenceMatch$Green", "to", "[I", true)
  | 18 => ("SilenceMatch$Green", "one", "[I", true)
  | _ => ("SilenceMatch$Green", "two", "[I", true)
def kC4 : String := "SilenceMatch$Heard"
def kF4 : u_T := fun k => match k with
  | _ => ("SilenceMatch$Heard", "fitting", "[I", true)
def kC5 : String := "SilenceMatch$Match"
def kF5 : u_T := fun k => match k with
  | 0 => ("SilenceMatch$Match", "coughing", "[I", true)
  | 1 => ("SilenceMatch$Match", "windy", "[Z", true)
  | 2 => ("SilenceMatch$Match", "still", "[I", true)
  | 3 => ("SilenceMatch$Match", "laughing", "[I", true)
  | 4 => ("SilenceMatch$Match", "draws", "LSilenceMatch$Draws;", true)
  | 5 => ("SilenceMatch$Match", "played", "I", false)
  | 6 => ("SilenceMatch$Match", "resting", "I", false)
  | 7 => ("SilenceMatch$Match", "fired", "I", false)
  | _ => ("SilenceMatch$Match", "parted", "I", false)
def kC6 : String := "SilenceMatch$Reader"
def kF6 : u_T := fun k => match k with
  | 0 => ("SilenceMatch$Reader", "fault", "I", false)
  | 1 => ("SilenceMatch$Reader", "faultPlace", "I", false)
  | 2 => ("SilenceMatch$Reader", "source", "LSilenceMatch$Tape;", true)
  | 3 => ("SilenceMatch$Reader", "kind", "I", false)
  | 4 => ("SilenceMatch$Reader", "place", "I", false)
  | _ => ("SilenceMatch$Reader", "stop", "I", false)
def kC7 : String := "SilenceMatch$Row"
def kF7 : u_T := fun k => match k with
  | 0 => ("SilenceMatch$Row", "width", "I", false)
  | 1 => ("SilenceMatch$Row", "size", "I", false)
  | _ => ("SilenceMatch$Row", "numbers", "[J", true)
def kC8 : String := "SilenceMatch$Tape"
def kF8 : u_T := fun k => match k with
  | 0 => ("SilenceMatch$Tape", "bytes", "[I", true)
  | _ => ("SilenceMatch$Tape", "size", "I", false)
def kC9 : String := "SilenceMatch"
def kF9 : u_T := fun k => match k with
  | 0 => ("SilenceMatch", "tape", "LSilenceMatch$Tape;", true)
  | 1 => ("SilenceMatch", "reader", "LSilenceMatch$Reader;", true)
  | 2 => ("SilenceMatch", "green", "LSilenceMatch$Green;", true)
  | 3 => ("SilenceMatch", "draft", "LSilenceMatch$Green;", true)
  | 4 => ("SilenceMatch", "trial", "LSilenceMatch$Green;", true)
  | 5 => ("SilenceMatch", "acts", "LSilenceMatch$Acts;", true)
  | 6 => ("SilenceMatch", "match", "LSilenceMatch$Match;", true)
  | 7 => ("SilenceMatch", "cover", "LSilenceMatch$Cover;", true)
  | 8 => ("SilenceMatch", "heard", "LSilenceMatch$Heard;", true)
  | 9 => ("SilenceMatch", "rows", "[LSilenceMatch$Row;", true)
  | 10 => ("SilenceMatch", "imageGreens", "[LSilenceMatch$Green;", true)
  | 11 => ("SilenceMatch", "imageActs", "[LSilenceMatch$Acts;", true)
  | _ => ("SilenceMatch", "imageKept", "[Z", true)
def kC10 : String := "SilenceMatchModel"
def kF10 : u_T := fun k => match k with
  | 0 => ("SilenceMatchModel", "thrown", "I", false)
  | 1 => ("SilenceMatchModel", "world", "[I", true)
  | 2 => ("SilenceMatchModel", "images", "[I", true)
  | 3 => ("SilenceMatchModel", "hasImage", "[Z", true)
  | 4 => ("SilenceMatchModel", "tape", "[B", true)
  | 5 => ("SilenceMatchModel", "taped", "I", false)
  | 6 => ("SilenceMatchModel", "five", "[I", true)
  | 7 => ("SilenceMatchModel", "size", "I", false)
  | 8 => ("SilenceMatchModel", "at", "I", false)
  | 9 => ("SilenceMatchModel", "from", "I", false)
  | 10 => ("SilenceMatchModel", "token", "I", false)
  | 11 => ("SilenceMatchModel", "value", "I", false)
  | 12 => ("SilenceMatchModel", "faultKind", "I", false)
  | 13 => ("SilenceMatchModel", "faultPlace", "I", false)
  | 14 => ("SilenceMatchModel", "fresh", "[I", true)
  | 15 => ("SilenceMatchModel", "firedUmpire", "I", false)
  | 16 => ("SilenceMatchModel", "cellOf", "[I", true)
  | 17 => ("SilenceMatchModel", "loudOf", "[I", true)
  | 18 => ("SilenceMatchModel", "outIn", "[I", true)
  | 19 => ("SilenceMatchModel", "finger", "[I", true)
  | 20 => ("SilenceMatchModel", "resting", "I", false)
  | 21 => ("SilenceMatchModel", "parted", "I", false)
  | 22 => ("SilenceMatchModel", "bellAt", "I", false)
  | 23 => ("SilenceMatchModel", "drawX", "J", false)
  | 24 => ("SilenceMatchModel", "isDrawn", "Z", false)
  | 25 => ("SilenceMatchModel", "drawMany", "I", false)
  | 26 => ("SilenceMatchModel", "lastsMost", "I", false)
  | 27 => ("SilenceMatchModel", "gainsMost", "I", false)
  | 28 => ("SilenceMatchModel", "covered", "[I", true)
  | 29 => ("SilenceMatchModel", "picks", "[I", true)
  | 30 => ("SilenceMatchModel", "coveredBy", "[I", true)
  | 31 => ("SilenceMatchModel", "sounds", "[I", true)
  | 32 => ("SilenceMatchModel", "soundMany", "I", false)
  | 33 => ("SilenceMatchModel", "askWorst", "I", false)
  | 34 => ("SilenceMatchModel", "many", "[I", true)
  | 35 => ("SilenceMatchModel", "width", "[I", true)
  | 36 => ("SilenceMatchModel", "numbers", "[J", true)
  | _ => ("SilenceMatchModel", "moving", "[J", true)
def k_cl : List vw_C := [(kC0, kF0, 4), (kC1, kF1, 5), (kC2, kF2, 4), (kC3, kF3, 20), (kC4, kF4, 1), (kC5, kF5, 9), (kC6, kF6, 6), (kC7, kF7, 3), (kC8, kF8, 2), (kC9, kF9, 13), (kC10, kF10, 38)]
theorem kcl_0 : kclb (kC0, kF0, 4) [297, 299, 301, 303] = true := by decide +kernel
theorem kcl_1 : kclb (kC1, kF1, 5) [379, 381, 383, 385, 387] = true := by decide +kernel
theorem kcl_2 : kclb (kC2, kF2, 4) [324, 326, 328, 330] = true := by decide +kernel
theorem kcl_3 : kclb (kC3, kF3, 20) [245, 247, 249, 251, 253, 255, 257, 259, 261, 263, 265, 267, 269, 271, 273, 275, 277, 279, 281, 283] = true := by decide +kernel
theorem kcl_4 : kclb (kC4, kF4, 1) [397] = true := by decide +kernel
theorem kcl_5 : kclb (kC5, kF5, 9) [347, 349, 351, 353, 355, 357, 359, 361, 363] = true := by decide +kernel
theorem kcl_6 : kclb (kC6, kF6, 6) [155, 157, 159, 161, 163, 165] = true := by decide +kernel
theorem kcl_7 : kclb (kC7, kF7, 3) [413, 415, 417] = true := by decide +kernel
theorem kcl_8 : kclb (kC8, kF8, 2) [135, 137] = true := by decide +kernel
theorem kcl_9 : kclb (kC9, kF9, 13) [436, 438, 440, 442, 444, 446, 448, 450, 452, 454, 456, 458, 460] = true := by decide +kernel
theorem kcl_10 : kclb (kC10, kF10, 38) [1259, 1261, 1263, 1265, 1267, 1269, 1271, 1273, 1275, 1277, 1279, 1281, 1283, 1285, 1287, 1289, 1291, 1293, 1295, 1297, 1299, 1301, 1303, 1305, 1307, 1309, 1311, 1313, 1315, 1317, 1319, 1321, 1323, 1325, 1327, 1329, 1331, 1333] = true := by decide +kernel
theorem k_clok : kclok k_cl k_lg := kclok_of (List.forall_mem_cons.mpr ⟨⟨_, kcl_0⟩, List.forall_mem_cons.mpr ⟨⟨_, kcl_1⟩, List.forall_mem_cons.mpr ⟨⟨_, kcl_2⟩, List.forall_mem_cons.mpr ⟨⟨_, kcl_3⟩, List.forall_mem_cons.mpr ⟨⟨_, kcl_4⟩, List.forall_mem_cons.mpr ⟨⟨_, kcl_5⟩, List.forall_mem_cons.mpr ⟨⟨_, kcl_6⟩, List.forall_mem_cons.mpr ⟨⟨_, kcl_7⟩, List.forall_mem_cons.mpr ⟨⟨_, kcl_8⟩, List.forall_mem_cons.mpr ⟨⟨_, kcl_9⟩, List.forall_mem_cons.mpr ⟨⟨_, kcl_10⟩, fun _ h => absurd h List.not_mem_nil⟩⟩⟩⟩⟩⟩⟩⟩⟩⟩⟩)
theorem k_cpw : Cond.native arraycopyName ∈ k_lg ∧ Cond.static arraycopyName ∈ k_lg ∧ Cond.initialized "java/lang/System" ∈ k_lg := ⟨kwd_ok (p := 635) (by decide +kernel), kwd_ok (p := 634) (by decide +kernel), kwd_ok (p := 115) (by decide +kernel)⟩
theorem k_tok : ktok k_tt k_cl := ktokb_ok (by decide +kernel)
def k_ns : List Cond := [(.methodLinkNest "SilenceMatch$Match" 83 ⟨"SilenceMatch", "bitsBelow", "(I)I"⟩ "SilenceMatch"), (.methodLinkNest "SilenceMatch$Cover" 28 ⟨"SilenceMatch", "bitsBelow", "(I)I"⟩ "SilenceMatch")]
theorem k_nsn : kNest k_ns := List.forall_mem_cons.mpr ⟨⟨_, _, _, _, rfl⟩, List.forall_mem_cons.mpr ⟨⟨_, _, _, _, rfl⟩, fun _ h => absurd h List.not_mem_nil⟩⟩
