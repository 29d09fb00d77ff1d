set_option maxRecDepth 100000 in
theorem gck_X0_find : gckL 0 cd_X0_find = true := by decide +kernel
set_option maxRecDepth 100000 in
theorem gck_X0_solve : gckL 1 cd_X0_solve = true := by decide +kernel
set_option maxRecDepth 100000 in
theorem gck_X0_rowTimes : gckL 2 cd_X0_rowTimes = true := by decide +kernel
set_option maxRecDepth 100000 in
theorem gck_X0_isLarge : gckL 3 cd_X0_isLarge = true := by decide +kernel
set_option maxRecDepth 100000 in
theorem gck_X0_greatestDivisor : gckL 4 cd_X0_greatestDivisor = true := by decide +kernel
set_option maxRecDepth 100000 in
theorem gck_X0_commonMultiple : gckL 5 cd_X0_commonMultiple = true := by decide +kernel
set_option maxRecDepth 100000 in
theorem gck_X1_take : gckL 6 cd_X1_take = true := by decide +kernel
set_option maxRecDepth 100000 in
theorem gck_X1_height : gckL 7 cd_X1_height = true := by decide +kernel
set_option maxRecDepth 100000 in
theorem gck_X1_at : gckL 8 cd_X1_at = true := by decide +kernel
set_option maxRecDepth 100000 in
theorem gck_X1_put : gckL 9 cd_X1_put = true := by decide +kernel
set_option maxRecDepth 100000 in
theorem gck_X1_determinant : gckL 10 cd_X1_determinant = true := by decide +kernel
set_option maxRecDepth 100000 in
theorem gck_X1_eliminate : gckL 11 cd_X1_eliminate = true := by decide +kernel
