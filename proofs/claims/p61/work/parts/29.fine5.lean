set_option maxRecDepth 100000 in
theorem f_X0_commonMultiple : gFine 5 cd_X0_commonMultiple [] 0 0 false := ⟨by decide +kernel, by decide +kernel, hcl_ok (by decide), by decide, by decide +kernel, rfl, rfl⟩
set_option maxRecDepth 100000 in
theorem f_X1_leadRow : gFine 13 cd_X1_leadRow [] 0 0 false := ⟨by decide +kernel, by decide +kernel, hcl_ok (by decide), by decide, by decide +kernel, rfl, rfl⟩
set_option maxRecDepth 100000 in
theorem f_X3_putWord : gFine 21 cd_X3_putWord [] 0 0 false := ⟨by decide +kernel, by decide +kernel, hcl_ok (by decide), by decide, by decide +kernel, rfl, rfl⟩
set_option maxRecDepth 100000 in
theorem f_X3_isWord : gFine 29 cd_X3_isWord [] 0 0 true := ⟨by decide +kernel, by decide +kernel, hcl_ok (by decide), by decide, by decide +kernel, rfl, rfl⟩
set_option maxRecDepth 100000 in
theorem f_X4_addDigit : gFine 37 cd_X4_addDigit [] 0 0 false := ⟨by decide +kernel, by decide +kernel, hcl_ok (by decide), by decide, by decide +kernel, rfl, rfl⟩
set_option maxRecDepth 100000 in
theorem f_X6_become : gFine 45 cd_X6_become [] 0 0 false := ⟨by decide +kernel, by decide +kernel, hcl_ok (by decide), by decide, by decide +kernel, rfl, rfl⟩
set_option maxRecDepth 100000 in
theorem f_X7_load : gFine 53 cd_X7_load [] 1 6 false := ⟨by decide +kernel, by decide +kernel, hcl_ok (by decide), by decide, by decide +kernel, rfl, rfl⟩
set_option maxRecDepth 100000 in
theorem f_X7_probe : gFine 62 cd_X7_probe [] 2 12 false := ⟨by decide +kernel, by decide +kernel, hcl_ok (by decide), by decide, by decide +kernel, rfl, rfl⟩
set_option maxRecDepth 100000 in
theorem f_X7_regularPrimes : gFine 70 cd_X7_regularPrimes [] 1 6 false := ⟨by decide +kernel, by decide +kernel, hcl_ok (by decide), by decide, by decide +kernel, rfl, rfl⟩
set_option maxRecDepth 100000 in
theorem f_X7_kernel : gFine 79 cd_X7_kernel [] 3 18 false := ⟨by decide +kernel, by decide +kernel, hcl_ok (by decide), by decide, by decide +kernel, rfl, rfl⟩
set_option maxRecDepth 100000 in
theorem f_X7_circulant : gFine 93 cd_X7_circulant [] 3 18 false := ⟨by decide +kernel, by decide +kernel, hcl_ok (by decide), by decide, by decide +kernel, rfl, rfl⟩
set_option maxRecDepth 100000 in
theorem f_X7_setPrime : gFine 101 cd_X7_setPrime [] 9 154 false := ⟨by decide +kernel, by decide +kernel, hcl_ok (by decide), by decide, by decide +kernel, rfl, rfl⟩
set_option maxRecDepth 100000 in
theorem f_X7_restore : gFine 109 cd_X7_restore [] 2 12 false := ⟨by decide +kernel, by decide +kernel, hcl_ok (by decide), by decide, by decide +kernel, rfl, rfl⟩
set_option maxRecDepth 100000 in
theorem f_X7_requireWithin : gFine 117 cd_X7_requireWithin [] 1 6 false := ⟨by decide +kernel, by decide +kernel, hcl_ok (by decide), by decide, by decide +kernel, rfl, rfl⟩
set_option maxRecDepth 100000 in
theorem f_X7_complementBehind : gFine 125 cd_X7_complementBehind [] 0 0 false := ⟨by decide +kernel, by decide +kernel, hcl_ok (by decide), by decide, by decide +kernel, rfl, rfl⟩
set_option maxRecDepth 100000 in
theorem f_X9_mod_ : gFine 134 cd_X9_mod_ [] 0 0 false := ⟨by decide +kernel, by decide +kernel, hcl_ok (by decide), by decide, by decide +kernel, rfl, rfl⟩
set_option maxRecDepth 100000 in
theorem f_X9_first : gFine 142 cd_X9_first [] 0 0 false := ⟨by decide +kernel, by decide +kernel, hcl_ok (by decide), by decide, by decide +kernel, rfl, rfl⟩
set_option maxRecDepth 100000 in
theorem f_L_calls : gFine 150 cd_L_calls [] 154 1824 false := ⟨by decide +kernel, by decide +kernel, hcl_ok (by decide), by decide, by decide +kernel, rfl, rfl⟩
set_option maxRecDepth 100000 in
theorem f_L_products : gFine 158 cd_L_products [] 1000 8000 true := ⟨by decide +kernel, by decide +kernel, hcl_ok (by decide), by decide, by decide +kernel, rfl, rfl⟩
set_option maxRecDepth 100000 in
theorem f_J7_fill_d0a16 : gFine 309 cd_J7_fill_d0a16 [] 0 0 false := ⟨by decide +kernel, by decide +kernel, hcl_ok (by decide), by decide, by decide +kernel, rfl, rfl⟩
