theorem i_vc : Claimed_1_1 ∧ Claimed_1_2 := zz_end zz_goal_holds
