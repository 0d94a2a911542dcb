/-! the claim -/
theorem i_vc : Claimed_1_1 ∧ Claimed_1_2 := i_vc_of (f_law_of (h120_of hu))
