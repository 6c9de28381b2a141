theorem i_vc : Claimed_1_1 ∧ Claimed_1_2 := nt_vc (fun L xs hL => ly_pure (fun X => ko_w_rread2 X) L xs hL)
