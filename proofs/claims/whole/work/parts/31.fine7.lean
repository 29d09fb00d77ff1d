set_option maxRecDepth 100000 in
theorem f_X1_height : gFine 7 cd_X1_height [] 0 0 false := ⟨by decide +kernel, by decide +kernel, hcl_ok (by decide), by decide, by decide +kernel, rfl, rfl⟩
set_option maxRecDepth 100000 in
theorem f_X1_inverseOf : gFine 15 cd_X1_inverseOf [] 0 0 false := ⟨by decide +kernel, by decide +kernel, hcl_ok (by decide), by decide, by decide +kernel, rfl, rfl⟩
set_option maxRecDepth 100000 in
theorem f_X3_readHead : gFine 23 cd_X3_readHead [] 0 0 true := ⟨by decide +kernel, by decide +kernel, hcl_ok (by decide), by decide, by decide +kernel, rfl, rfl⟩
set_option maxRecDepth 100000 in
theorem f_X3_advance : gFine 31 cd_X3_advance [] 0 0 false := ⟨by decide +kernel, by decide +kernel, hcl_ok (by decide), by decide, by decide +kernel, rfl, rfl⟩
set_option maxRecDepth 100000 in
theorem f_X4_liftAndEnter : gFine 39 cd_X4_liftAndEnter [] 0 0 true := ⟨by decide +kernel, by decide +kernel, hcl_ok (by decide), by decide, by decide +kernel, rfl, rfl⟩
set_option maxRecDepth 100000 in
theorem f_X6_putAlong : gFine 47 cd_X6_putAlong [] 0 0 false := ⟨by decide +kernel, by decide +kernel, hcl_ok (by decide), by decide, by decide +kernel, rfl, rfl⟩
set_option maxRecDepth 100000 in
theorem f_X7_errorPosition : gFine 55 cd_X7_errorPosition [] 0 0 false := ⟨by decide +kernel, by decide +kernel, hcl_ok (by decide), by decide, by decide +kernel, rfl, rfl⟩
set_option maxRecDepth 100000 in
theorem f_X7_minor : gFine 63 cd_X7_minor [] 2 12 false := ⟨by decide +kernel, by decide +kernel, hcl_ok (by decide), by decide, by decide +kernel, rfl, rfl⟩
set_option maxRecDepth 100000 in
theorem f_X7_minorIf : gFine 71 cd_X7_minorIf [] 4 24 false := ⟨by decide +kernel, by decide +kernel, hcl_ok (by decide), by decide, by decide +kernel, rfl, rfl⟩
set_option maxRecDepth 100000 in
theorem f_X7_kernel : gFine 79 cd_X7_kernel [] 3 18 false := ⟨by decide +kernel, by decide +kernel, hcl_ok (by decide), by decide, by decide +kernel, rfl, rfl⟩
set_option maxRecDepth 100000 in
theorem f_X7_numerator : gFine 87 cd_X7_numerator [] 3 18 false := ⟨by decide +kernel, by decide +kernel, hcl_ok (by decide), by decide, by decide +kernel, rfl, rfl⟩
set_option maxRecDepth 100000 in
theorem f_X7_probeSolves : gFine 95 cd_X7_probeSolves [] 1 6 true := ⟨by decide +kernel, by decide +kernel, hcl_ok (by decide), by decide, by decide +kernel, rfl, rfl⟩
set_option maxRecDepth 100000 in
theorem f_X7_shrink : gFine 103 cd_X7_shrink [] 9 154 false := ⟨by decide +kernel, by decide +kernel, hcl_ok (by decide), by decide, by decide +kernel, rfl, rfl⟩
set_option maxRecDepth 100000 in
theorem f_X7_requireRow : gFine 111 cd_X7_requireRow [] 1 6 false := ⟨by decide +kernel, by decide +kernel, hcl_ok (by decide), by decide, by decide +kernel, rfl, rfl⟩
set_option maxRecDepth 100000 in
theorem f_X7_requireLifter : gFine 119 cd_X7_requireLifter [] 1 6 false := ⟨by decide +kernel, by decide +kernel, hcl_ok (by decide), by decide, by decide +kernel, rfl, rfl⟩
set_option maxRecDepth 100000 in
theorem f_X7_eliminateWithSides : gFine 127 cd_X7_eliminateWithSides [] 0 0 false := ⟨by decide +kernel, by decide +kernel, hcl_ok (by decide), by decide, by decide +kernel, rfl, rfl⟩
set_option maxRecDepth 100000 in
theorem f_X8_primeAt : gFine 135 cd_X8_primeAt [] 0 0 false := ⟨by decide +kernel, by decide +kernel, hcl_ok (by decide), by decide, by decide +kernel, rfl, rfl⟩
set_option maxRecDepth 100000 in
theorem f_X8_token : gFine 143 cd_X8_token [] 0 0 false := ⟨by decide +kernel, by decide +kernel, hcl_ok (by decide), by decide, by decide +kernel, rfl, rfl⟩
set_option maxRecDepth 100000 in
theorem f_X8_takesSigned : gFine 151 cd_X8_takesSigned [] 0 0 false := ⟨by decide +kernel, by decide +kernel, hcl_ok (by decide), by decide, by decide +kernel, rfl, rfl⟩
set_option maxRecDepth 100000 in
theorem f_X8_isDiagonal : gFine 159 cd_X8_isDiagonal [] 0 0 true := ⟨by decide +kernel, by decide +kernel, hcl_ok (by decide), by decide, by decide +kernel, rfl, rfl⟩
set_option maxRecDepth 100000 in
theorem f_X8_entryOf : gFine 167 cd_X8_entryOf [] 0 0 false := ⟨by decide +kernel, by decide +kernel, hcl_ok (by decide), by decide, by decide +kernel, rfl, rfl⟩
set_option maxRecDepth 100000 in
theorem f_X8_swaps : gFine 175 cd_X8_swaps [] 0 0 false := ⟨by decide +kernel, by decide +kernel, hcl_ok (by decide), by decide, by decide +kernel, rfl, rfl⟩
set_option maxRecDepth 100000 in
theorem f_X8_rank : gFine 183 cd_X8_rank [] 0 0 false := ⟨by decide +kernel, by decide +kernel, hcl_ok (by decide), by decide, by decide +kernel, rfl, rfl⟩
set_option maxRecDepth 100000 in
theorem f_X8_tail : gFine 191 cd_X8_tail [] 0 0 false := ⟨by decide +kernel, by decide +kernel, hcl_ok (by decide), by decide, by decide +kernel, rfl, rfl⟩
set_option maxRecDepth 100000 in
theorem f_X8_schur : gFine 199 cd_X8_schur [] 0 0 false := ⟨by decide +kernel, by decide +kernel, hcl_ok (by decide), by decide, by decide +kernel, rfl, rfl⟩
set_option maxRecDepth 100000 in
theorem f_X8_inverse : gFine 207 cd_X8_inverse [] 0 0 false := ⟨by decide +kernel, by decide +kernel, hcl_ok (by decide), by decide, by decide +kernel, rfl, rfl⟩
set_option maxRecDepth 100000 in
theorem f_X8_digit : gFine 215 cd_X8_digit [] 0 0 false := ⟨by decide +kernel, by decide +kernel, hcl_ok (by decide), by decide, by decide +kernel, rfl, rfl⟩
set_option maxRecDepth 100000 in
theorem f_X8_denominator : gFine 223 cd_X8_denominator [] 0 0 false := ⟨by decide +kernel, by decide +kernel, hcl_ok (by decide), by decide, by decide +kernel, rfl, rfl⟩
set_option maxRecDepth 100000 in
theorem f_X8_productOf : gFine 231 cd_X8_productOf [] 0 0 false := ⟨by decide +kernel, by decide +kernel, hcl_ok (by decide), by decide, by decide +kernel, rfl, rfl⟩
set_option maxRecDepth 100000 in
theorem f_X8_keeps : gFine 239 cd_X8_keeps [] 0 0 false := ⟨by decide +kernel, by decide +kernel, hcl_ok (by decide), by decide, by decide +kernel, rfl, rfl⟩
set_option maxRecDepth 100000 in
theorem f_X8_grow : gFine 247 cd_X8_grow [] 0 0 false := ⟨by decide +kernel, by decide +kernel, hcl_ok (by decide), by decide, by decide +kernel, rfl, rfl⟩
set_option maxRecDepth 100000 in
theorem f_L_diagonal : gFine 255 cd_L_diagonal [(0, 9, 12, 0), (0, 9, 15, 1)] 2 12 false := ⟨by decide +kernel, by decide +kernel, hcl_ok (by decide), by decide, by decide +kernel, rfl, rfl⟩
set_option maxRecDepth 100000 in
theorem f_L_stepEnd : gFine 263 cd_L_stepEnd [(0, 9, 12, 0), (0, 9, 15, 1)] 2 12 false := ⟨by decide +kernel, by decide +kernel, hcl_ok (by decide), by decide, by decide +kernel, rfl, rfl⟩
set_option maxRecDepth 100000 in
theorem f_L_generator : gFine 271 cd_L_generator [(0, 14, 17, 0), (0, 14, 21, 1)] 4 24 false := ⟨by decide +kernel, by decide +kernel, hcl_ok (by decide), by decide, by decide +kernel, rfl, rfl⟩
set_option maxRecDepth 100000 in
theorem f_L_digit : gFine 279 cd_L_digit [(0, 10, 13, 0), (0, 10, 17, 1)] 3 18 false := ⟨by decide +kernel, by decide +kernel, hcl_ok (by decide), by decide, by decide +kernel, rfl, rfl⟩
set_option maxRecDepth 100000 in
theorem f_L_liftsTo : gFine 287 cd_L_liftsTo [(0, 8, 11, 0)] 1 6 false := ⟨by decide +kernel, by decide +kernel, hcl_ok (by decide), by decide, by decide +kernel, rfl, rfl⟩
set_option maxRecDepth 100000 in
theorem f_L_setProbe : gFine 295 cd_L_setProbe [(0, 10, 13, 0), (0, 10, 17, 1), (0, 10, 21, 2)] 10 160 false := ⟨by decide +kernel, by decide +kernel, hcl_ok (by decide), by decide, by decide +kernel, rfl, rfl⟩
set_option maxRecDepth 100000 in
theorem f_L_restore : gFine 303 cd_L_restore [(0, 9, 12, 1), (0, 9, 15, 0)] 2 12 false := ⟨by decide +kernel, by decide +kernel, hcl_ok (by decide), by decide, by decide +kernel, rfl, rfl⟩
