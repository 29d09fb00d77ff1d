set_option maxRecDepth 100000 in
theorem f_X0_isLarge : gFine 3 cd_X0_isLarge [] 0 0 true := ⟨by decide +kernel, by decide +kernel, hcl_ok (by decide), by decide, by decide +kernel, rfl, rfl⟩
set_option maxRecDepth 100000 in
theorem f_X1_eliminate : gFine 11 cd_X1_eliminate [] 0 0 false := ⟨by decide +kernel, by decide +kernel, hcl_ok (by decide), by decide, by decide +kernel, rfl, rfl⟩
set_option maxRecDepth 100000 in
theorem f_X2_takeLatest : gFine 19 cd_X2_takeLatest [] 0 0 false := ⟨by decide +kernel, by decide +kernel, hcl_ok (by decide), by decide, by decide +kernel, rfl, rfl⟩
set_option maxRecDepth 100000 in
theorem f_X3_readPart : gFine 27 cd_X3_readPart [] 0 0 true := ⟨by decide +kernel, by decide +kernel, hcl_ok (by decide), by decide, by decide +kernel, rfl, rfl⟩
set_option maxRecDepth 100000 in
theorem f_X4_prepare : gFine 35 cd_X4_prepare [] 0 0 true := ⟨by decide +kernel, by decide +kernel, hcl_ok (by decide), by decide, by decide +kernel, rfl, rfl⟩
set_option maxRecDepth 100000 in
theorem f_X5_subtract : gFine 43 cd_X5_subtract [] 0 0 false := ⟨by decide +kernel, by decide +kernel, hcl_ok (by decide), by decide, by decide +kernel, rfl, rfl⟩
set_option maxRecDepth 100000 in
theorem f_X6_enter : gFine 51 cd_X6_enter [] 0 0 false := ⟨by decide +kernel, by decide +kernel, hcl_ok (by decide), by decide, by decide +kernel, rfl, rfl⟩
set_option maxRecDepth 100000 in
theorem f_X7_entry : gFine 60 cd_X7_entry [] 3 18 false := ⟨by decide +kernel, by decide +kernel, hcl_ok (by decide), by decide, by decide +kernel, rfl, rfl⟩
set_option maxRecDepth 100000 in
theorem f_X7_longestJump : gFine 68 cd_X7_longestJump [] 1 6 false := ⟨by decide +kernel, by decide +kernel, hcl_ok (by decide), by decide, by decide +kernel, rfl, rfl⟩
set_option maxRecDepth 100000 in
theorem f_X7_solution : gFine 77 cd_X7_solution [] 3 18 false := ⟨by decide +kernel, by decide +kernel, hcl_ok (by decide), by decide, by decide +kernel, rfl, rfl⟩
set_option maxRecDepth 100000 in
theorem f_X7_numerator : gFine 87 cd_X7_numerator [] 3 18 false := ⟨by decide +kernel, by decide +kernel, hcl_ok (by decide), by decide, by decide +kernel, rfl, rfl⟩
set_option maxRecDepth 100000 in
theorem f_X7_setSide : gFine 99 cd_X7_setSide [] 10 160 false := ⟨by decide +kernel, by decide +kernel, hcl_ok (by decide), by decide, by decide +kernel, rfl, rfl⟩
set_option maxRecDepth 100000 in
theorem f_X7_undoable : gFine 107 cd_X7_undoable [] 0 0 false := ⟨by decide +kernel, by decide +kernel, hcl_ok (by decide), by decide, by decide +kernel, rfl, rfl⟩
set_option maxRecDepth 100000 in
theorem f_X7_requireSize : gFine 115 cd_X7_requireSize [] 1 6 false := ⟨by decide +kernel, by decide +kernel, hcl_ok (by decide), by decide, by decide +kernel, rfl, rfl⟩
set_option maxRecDepth 100000 in
theorem f_X7_findSteps : gFine 123 cd_X7_findSteps [] 0 0 false := ⟨by decide +kernel, by decide +kernel, hcl_ok (by decide), by decide, by decide +kernel, rfl, rfl⟩
set_option maxRecDepth 100000 in
theorem f_X9_at : gFine 132 cd_X9_at [] 0 0 false := ⟨by decide +kernel, by decide +kernel, hcl_ok (by decide), by decide, by decide +kernel, rfl, rfl⟩
set_option maxRecDepth 100000 in
theorem f_X9_det4 : gFine 140 cd_X9_det4 [] 0 0 false := ⟨by decide +kernel, by decide +kernel, hcl_ok (by decide), by decide, by decide +kernel, rfl, rfl⟩
set_option maxRecDepth 100000 in
theorem f_L_feeds : gFine 148 cd_L_feeds [] 20 100 true := ⟨by decide +kernel, by decide +kernel, hcl_ok (by decide), by decide, by decide +kernel, rfl, rfl⟩
set_option maxRecDepth 100000 in
theorem f_L_solutions : gFine 156 cd_L_solutions [] 1500 18000 true := ⟨by decide +kernel, by decide +kernel, hcl_ok (by decide), by decide, by decide +kernel, rfl, rfl⟩
set_option maxRecDepth 100000 in
theorem f_J9_max_7cf53 : gFine 307 cd_J9_max_7cf53 [] 0 0 false := ⟨by decide +kernel, by decide +kernel, hcl_ok (by decide), by decide, by decide +kernel, rfl, rfl⟩
