/-! THE CLAIM -/
theorem i_vc : Claimed_1_1 ∧ Claimed_1_2 := jy_vc (fun _ _ hL => i_goal hL)
