/-! the code of the methods, decoded -/
theorem dc_X10_readPlayer : ∀ q ∈ cd_X10_readPlayer, decode prog_12_method_28_code q.1 = .ok (q.2.1, q.2.2) := by decide +kernel
theorem dc_X10_readFriends : ∀ q ∈ cd_X10_readFriends, decode prog_12_method_29_code q.1 = .ok (q.2.1, q.2.2) := by decide +kernel
theorem dc_X10_readNext : ∀ q ∈ cd_X10_readNext, decode prog_12_method_30_code q.1 = .ok (q.2.1, q.2.2) := by decide +kernel
theorem dc_X10_readLine : ∀ q ∈ cd_X10_readLine, decode prog_12_method_31_code q.1 = .ok (q.2.1, q.2.2) := by decide +kernel
theorem dc_X10_green : ∀ q ∈ cd_X10_green, decode prog_12_method_32_code q.1 = .ok (q.2.1, q.2.2) := by decide +kernel
theorem dc_X10_image : ∀ q ∈ cd_X10_image, decode prog_12_method_6_code q.1 = .ok (q.2.1, q.2.2) := by decide +kernel
theorem dc_X10_back : ∀ q ∈ cd_X10_back, decode prog_12_method_7_code q.1 = .ok (q.2.1, q.2.2) := by decide +kernel
