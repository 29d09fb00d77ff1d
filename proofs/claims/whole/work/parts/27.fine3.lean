set_option maxRecDepth 100000 in
theorem f_X0_isLarge : gFine 3 cd_X0_isLarge [] 0 0 true := ⟨by decide +kernel, by decide +kernel, hcl_ok (by decide), by decide, by decide +kernel, rfl, rfl⟩
set_option maxRecDepth 100000 in
theorem f_X1_eliminate : gFine 11 cd_X1_eliminate [] 0 0 false := ⟨by decide +kernel, by decide +kernel, hcl_ok (by decide), by decide, by decide +kernel, rfl, rfl⟩
set_option maxRecDepth 100000 in
theorem f_X2_takeLatest : gFine 19 cd_X2_takeLatest [] 0 0 false := ⟨by decide +kernel, by decide +kernel, hcl_ok (by decide), by decide, by decide +kernel, rfl, rfl⟩
set_option maxRecDepth 100000 in
theorem f_X3_readPart : gFine 27 cd_X3_readPart [] 0 0 true := ⟨by decide +kernel, by decide +kernel, hcl_ok (by decide), by decide, by decide +kernel, rfl, rfl⟩
set_option maxRecDepth 100000 in
theorem f_X4_prepare : gFine 35 cd_X4_prepare [] 0 0 true := ⟨by decide +kernel, by decide +kernel, hcl_ok (by decide), by decide, by decide +kernel, rfl, rfl⟩
set_option maxRecDepth 100000 in
theorem f_X5_subtract : gFine 43 cd_X5_subtract [] 0 0 false := ⟨by decide +kernel, by decide +kernel, hcl_ok (by decide), by decide, by decide +kernel, rfl, rfl⟩
set_option maxRecDepth 100000 in
theorem f_X6_enter : gFine 51 cd_X6_enter [] 0 0 false := ⟨by decide +kernel, by decide +kernel, hcl_ok (by decide), by decide, by decide +kernel, rfl, rfl⟩
set_option maxRecDepth 100000 in
theorem f_X7_diagonal : gFine 59 cd_X7_diagonal [] 2 12 false := ⟨by decide +kernel, by decide +kernel, hcl_ok (by decide), by decide, by decide +kernel, rfl, rfl⟩
set_option maxRecDepth 100000 in
theorem f_X7_stepEnd : gFine 67 cd_X7_stepEnd [] 2 12 false := ⟨by decide +kernel, by decide +kernel, hcl_ok (by decide), by decide, by decide +kernel, rfl, rfl⟩
set_option maxRecDepth 100000 in
theorem f_X7_generator : gFine 75 cd_X7_generator [] 4 24 false := ⟨by decide +kernel, by decide +kernel, hcl_ok (by decide), by decide, by decide +kernel, rfl, rfl⟩
set_option maxRecDepth 100000 in
theorem f_X7_digit : gFine 83 cd_X7_digit [] 3 18 false := ⟨by decide +kernel, by decide +kernel, hcl_ok (by decide), by decide, by decide +kernel, rfl, rfl⟩
set_option maxRecDepth 100000 in
theorem f_X7_liftsTo : gFine 91 cd_X7_liftsTo [] 1 6 false := ⟨by decide +kernel, by decide +kernel, hcl_ok (by decide), by decide, by decide +kernel, rfl, rfl⟩
set_option maxRecDepth 100000 in
theorem f_X7_setSide : gFine 99 cd_X7_setSide [] 10 160 false := ⟨by decide +kernel, by decide +kernel, hcl_ok (by decide), by decide, by decide +kernel, rfl, rfl⟩
set_option maxRecDepth 100000 in
theorem f_X7_undoable : gFine 107 cd_X7_undoable [] 0 0 false := ⟨by decide +kernel, by decide +kernel, hcl_ok (by decide), by decide, by decide +kernel, rfl, rfl⟩
set_option maxRecDepth 100000 in
theorem f_X7_requireSize : gFine 115 cd_X7_requireSize [] 1 6 false := ⟨by decide +kernel, by decide +kernel, hcl_ok (by decide), by decide, by decide +kernel, rfl, rfl⟩
set_option maxRecDepth 100000 in
theorem f_X7_findSteps : gFine 123 cd_X7_findSteps [] 0 0 false := ⟨by decide +kernel, by decide +kernel, hcl_ok (by decide), by decide, by decide +kernel, rfl, rfl⟩
set_option maxRecDepth 100000 in
theorem f_X8_in : gFine 131 cd_X8_in [] 0 0 true := ⟨by decide +kernel, by decide +kernel, hcl_ok (by decide), by decide, by decide +kernel, rfl, rfl⟩
set_option maxRecDepth 100000 in
theorem f_X8_errorPosition : gFine 139 cd_X8_errorPosition [] 0 0 false := ⟨by decide +kernel, by decide +kernel, hcl_ok (by decide), by decide, by decide +kernel, rfl, rfl⟩
set_option maxRecDepth 100000 in
theorem f_X8_expects : gFine 147 cd_X8_expects [] 0 0 false := ⟨by decide +kernel, by decide +kernel, hcl_ok (by decide), by decide, by decide +kernel, rfl, rfl⟩
set_option maxRecDepth 100000 in
theorem f_X8_reads : gFine 155 cd_X8_reads [] 0 0 false := ⟨by decide +kernel, by decide +kernel, hcl_ok (by decide), by decide, by decide +kernel, rfl, rfl⟩
set_option maxRecDepth 100000 in
theorem f_X8_size : gFine 163 cd_X8_size [] 0 0 false := ⟨by decide +kernel, by decide +kernel, hcl_ok (by decide), by decide, by decide +kernel, rfl, rfl⟩
set_option maxRecDepth 100000 in
theorem f_X8_probe : gFine 171 cd_X8_probe [] 0 0 false := ⟨by decide +kernel, by decide +kernel, hcl_ok (by decide), by decide, by decide +kernel, rfl, rfl⟩
set_option maxRecDepth 100000 in
theorem f_X8_minorNow : gFine 179 cd_X8_minorNow [] 0 0 false := ⟨by decide +kernel, by decide +kernel, hcl_ok (by decide), by decide, by decide +kernel, rfl, rfl⟩
set_option maxRecDepth 100000 in
theorem f_X8_steps : gFine 187 cd_X8_steps [] 0 0 false := ⟨by decide +kernel, by decide +kernel, hcl_ok (by decide), by decide, by decide +kernel, rfl, rfl⟩
set_option maxRecDepth 100000 in
theorem f_X8_displaces : gFine 195 cd_X8_displaces [] 0 0 false := ⟨by decide +kernel, by decide +kernel, hcl_ok (by decide), by decide, by decide +kernel, rfl, rfl⟩
set_option maxRecDepth 100000 in
theorem f_X8_mostGenerators : gFine 203 cd_X8_mostGenerators [] 0 0 false := ⟨by decide +kernel, by decide +kernel, hcl_ok (by decide), by decide, by decide +kernel, rfl, rfl⟩
set_option maxRecDepth 100000 in
theorem f_X8_modulus : gFine 211 cd_X8_modulus [] 0 0 false := ⟨by decide +kernel, by decide +kernel, hcl_ok (by decide), by decide, by decide +kernel, rfl, rfl⟩
set_option maxRecDepth 100000 in
theorem f_X8_isWide : gFine 219 cd_X8_isWide [] 0 0 true := ⟨by decide +kernel, by decide +kernel, hcl_ok (by decide), by decide, by decide +kernel, rfl, rfl⟩
set_option maxRecDepth 100000 in
theorem f_X8_canLift : gFine 227 cd_X8_canLift [] 0 0 true := ⟨by decide +kernel, by decide +kernel, hcl_ok (by decide), by decide, by decide +kernel, rfl, rfl⟩
set_option maxRecDepth 100000 in
theorem f_X8_circulant : gFine 235 cd_X8_circulant [] 0 0 false := ⟨by decide +kernel, by decide +kernel, hcl_ok (by decide), by decide, by decide +kernel, rfl, rfl⟩
set_option maxRecDepth 100000 in
theorem f_X8_setDiagonal : gFine 243 cd_X8_setDiagonal [] 0 0 false := ⟨by decide +kernel, by decide +kernel, hcl_ok (by decide), by decide, by decide +kernel, rfl, rfl⟩
set_option maxRecDepth 100000 in
theorem f_X8_undo : gFine 251 cd_X8_undo [] 0 0 false := ⟨by decide +kernel, by decide +kernel, hcl_ok (by decide), by decide, by decide +kernel, rfl, rfl⟩
set_option maxRecDepth 100000 in
theorem f_L_minor : gFine 259 cd_L_minor [(0, 9, 12, 0), (0, 9, 15, 1)] 2 12 false := ⟨by decide +kernel, by decide +kernel, hcl_ok (by decide), by decide, by decide +kernel, rfl, rfl⟩
set_option maxRecDepth 100000 in
theorem f_L_minorIf : gFine 267 cd_L_minorIf [(0, 12, 15, 0), (0, 12, 19, 1), (0, 12, 23, 2)] 4 24 false := ⟨by decide +kernel, by decide +kernel, hcl_ok (by decide), by decide, by decide +kernel, rfl, rfl⟩
set_option maxRecDepth 100000 in
theorem f_L_kernel : gFine 275 cd_L_kernel [(0, 9, 12, 0), (0, 9, 15, 1), (0, 9, 18, 2)] 3 18 false := ⟨by decide +kernel, by decide +kernel, hcl_ok (by decide), by decide, by decide +kernel, rfl, rfl⟩
set_option maxRecDepth 100000 in
theorem f_L_numerator : gFine 283 cd_L_numerator [(0, 9, 12, 0), (0, 9, 15, 1), (0, 9, 18, 2)] 3 18 false := ⟨by decide +kernel, by decide +kernel, hcl_ok (by decide), by decide, by decide +kernel, rfl, rfl⟩
set_option maxRecDepth 100000 in
theorem f_L_probeSolves : gFine 291 cd_L_probeSolves [(0, 15, 18, 0)] 1 6 false := ⟨by decide +kernel, by decide +kernel, hcl_ok (by decide), by decide, by decide +kernel, rfl, rfl⟩
set_option maxRecDepth 100000 in
theorem f_L_lift : gFine 299 cd_L_lift [(0, 8, 11, 0), (0, 8, 14, 2)] 10 160 false := ⟨by decide +kernel, by decide +kernel, hcl_ok (by decide), by decide, by decide +kernel, rfl, rfl⟩
set_option maxRecDepth 100000 in
theorem f_J9_max_7cf53 : gFine 307 cd_J9_max_7cf53 [] 0 0 false := ⟨by decide +kernel, by decide +kernel, hcl_ok (by decide), by decide, by decide +kernel, rfl, rfl⟩
