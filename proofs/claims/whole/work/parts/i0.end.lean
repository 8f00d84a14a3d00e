/-! what is owed -/
theorem i_vc : Claimed_1_1 ∧ Claimed_1_2 := i_vc_of (g_of_z z_all)
