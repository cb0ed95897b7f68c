/-! WORDS of the methods -/
def mw_300 : kMd × Nat × Nat := ((⟨"SilenceMatchModel", "readLine", "()V"⟩, prog_12_method_31_code, 1, none), 0, 10)
theorem mo_300 : kMw k_cl mw_300 := kMwb_ok (p1 := 109) (p2 := 1384) (p3 := 39) (by decide +kernel) (kwd_ok (p := 1385) (by decide +kernel))
def mw_301 : kMd × Nat × Nat := ((⟨"SilenceMatchModel", "green", "()I"⟩, prog_12_method_32_code, 2, some .int), 0, 10)
theorem mo_301 : kMw k_cl mw_301 := kMwb_ok (p1 := 109) (p2 := 1361) (p3 := 1362) (by decide +kernel) (kwd_ok (p := 1363) (by decide +kernel))
def mw_302 : kMd × Nat × Nat := ((⟨"SilenceMatchModel", "image", "(I)I"⟩, prog_12_method_6_code, 3, some .int), 1, 10)
theorem mo_302 : kMw k_cl mw_302 := kMwb_ok (p1 := 109) (p2 := 1337) (p3 := 1338) (by decide +kernel) (kwd_ok (p := 1339) (by decide +kernel))
def mw_303 : kMd × Nat × Nat := ((⟨"SilenceMatchModel", "back", "(I)I"⟩, prog_12_method_7_code, 3, some .int), 1, 10)
theorem mo_303 : kMw k_cl mw_303 := kMwb_ok (p1 := 109) (p2 := 1345) (p3 := 1346) (by decide +kernel) (kwd_ok (p := 1347) (by decide +kernel))
