set_option maxRecDepth 100000 in
theorem f_X0_find : gFine 0 cd_X0_find [] 0 0 true := ⟨by decide +kernel, by decide +kernel, hcl_ok (by decide), by decide, by decide +kernel, rfl, rfl⟩
set_option maxRecDepth 100000 in
theorem f_X1_at : gFine 8 cd_X1_at [] 0 0 false := ⟨by decide +kernel, by decide +kernel, hcl_ok (by decide), by decide, by decide +kernel, rfl, rfl⟩
set_option maxRecDepth 100000 in
theorem f_X1_ofKernel : gFine 16 cd_X1_ofKernel [] 0 0 false := ⟨by decide +kernel, by decide +kernel, hcl_ok (by decide), by decide, by decide +kernel, rfl, rfl⟩
set_option maxRecDepth 100000 in
theorem f_X3_readLine : gFine 24 cd_X3_readLine [] 0 0 true := ⟨by decide +kernel, by decide +kernel, hcl_ok (by decide), by decide, by decide +kernel, rfl, rfl⟩
set_option maxRecDepth 100000 in
theorem f_X3_runEnd : gFine 32 cd_X3_runEnd [] 0 0 false := ⟨by decide +kernel, by decide +kernel, hcl_ok (by decide), by decide, by decide +kernel, rfl, rfl⟩
set_option maxRecDepth 100000 in
theorem f_X5_component : gFine 40 cd_X5_component [] 0 0 false := ⟨by decide +kernel, by decide +kernel, hcl_ok (by decide), by decide, by decide +kernel, rfl, rfl⟩
set_option maxRecDepth 100000 in
theorem f_X6_beginRefinement : gFine 48 cd_X6_beginRefinement [] 0 0 false := ⟨by decide +kernel, by decide +kernel, hcl_ok (by decide), by decide, by decide +kernel, rfl, rfl⟩
set_option maxRecDepth 100000 in
theorem f_X7_size : gFine 57 cd_X7_size [] 0 0 false := ⟨by decide +kernel, by decide +kernel, hcl_ok (by decide), by decide, by decide +kernel, rfl, rfl⟩
set_option maxRecDepth 100000 in
theorem f_X7_isRegular : gFine 65 cd_X7_isRegular [] 1 6 true := ⟨by decide +kernel, by decide +kernel, hcl_ok (by decide), by decide, by decide +kernel, rfl, rfl⟩
set_option maxRecDepth 100000 in
theorem f_X7_displacement : gFine 73 cd_X7_displacement [] 4 24 false := ⟨by decide +kernel, by decide +kernel, hcl_ok (by decide), by decide, by decide +kernel, rfl, rfl⟩
set_option maxRecDepth 100000 in
theorem f_X7_digit : gFine 83 cd_X7_digit [] 3 18 false := ⟨by decide +kernel, by decide +kernel, hcl_ok (by decide), by decide, by decide +kernel, rfl, rfl⟩
set_option maxRecDepth 100000 in
theorem f_X7_entries : gFine 96 cd_X7_entries [] 0 0 false := ⟨by decide +kernel, by decide +kernel, hcl_ok (by decide), by decide, by decide +kernel, rfl, rfl⟩
set_option maxRecDepth 100000 in
theorem f_X7_lift : gFine 104 cd_X7_lift [] 10 160 false := ⟨by decide +kernel, by decide +kernel, hcl_ok (by decide), by decide, by decide +kernel, rfl, rfl⟩
set_option maxRecDepth 100000 in
theorem f_X7_requireBehind : gFine 112 cd_X7_requireBehind [] 1 6 false := ⟨by decide +kernel, by decide +kernel, hcl_ok (by decide), by decide, by decide +kernel, rfl, rfl⟩
set_option maxRecDepth 100000 in
theorem f_X7_isListed : gFine 120 cd_X7_isListed [] 0 0 true := ⟨by decide +kernel, by decide +kernel, hcl_ok (by decide), by decide, by decide +kernel, rfl, rfl⟩
set_option maxRecDepth 100000 in
theorem f_X7_timesProbe : gFine 128 cd_X7_timesProbe [] 0 0 false := ⟨by decide +kernel, by decide +kernel, hcl_ok (by decide), by decide, by decide +kernel, rfl, rfl⟩
set_option maxRecDepth 100000 in
theorem f_X9_det1 : gFine 137 cd_X9_det1 [] 0 0 false := ⟨by decide +kernel, by decide +kernel, hcl_ok (by decide), by decide, by decide +kernel, rfl, rfl⟩
set_option maxRecDepth 100000 in
theorem f_X9_areFree : gFine 145 cd_X9_areFree [] 0 0 true := ⟨by decide +kernel, by decide +kernel, hcl_ok (by decide), by decide, by decide +kernel, rfl, rfl⟩
set_option maxRecDepth 100000 in
theorem f_L_act : gFine 153 cd_L_act [] 374 4644 true := ⟨by decide +kernel, by decide +kernel, hcl_ok (by decide), by decide, by decide +kernel, rfl, rfl⟩
set_option maxRecDepth 100000 in
theorem f_J9_floorMod_7cf53 : gFine 304 cd_J9_floorMod_7cf53 [] 0 0 false := ⟨by decide +kernel, by decide +kernel, hcl_ok (by decide), by decide, by decide +kernel, rfl, rfl⟩
