/-! ===== the words of the throws, the copies, the fields of the classes ===== -/
theorem gw_cpl : Cond.methodLink "ToeplitzLab$State" 54 arraycopyName ∈ gBig := gBig_of (gpc3 (List.mem_of_getElem? (i := 218) rfl)) rfl
theorem gw_cpn : Cond.native arraycopyName ∈ gBig := gBig_of (gpc2 (List.mem_of_getElem? (i := 173) rfl)) rfl
theorem gw_cps : Cond.static arraycopyName ∈ gBig := gBig_of (gpc2 (List.mem_of_getElem? (i := 172) rfl)) rfl
theorem gw_pri : Cond.fieldLink "ToeplitzLab" 164 "ToeplitzLab" "PRIMES" "[I" ∈ gBig := gBig_of (gpc4 (List.mem_of_getElem? (i := 18) rfl)) rfl
theorem gw_ari : Cond.arrayClass .int ∈ gBig := gBig_of (gpc1 (List.mem_of_getElem? (i := 109) rfl)) rfl
theorem gw_prL : Cond.fieldLink "ToeplitzLabLaw" 187 "ToeplitzLabLaw" "PRIMES" "[I" ∈ gBig := gBig_of (gpc6 (List.mem_of_getElem? (i := 42) rfl)) rfl
set_option maxRecDepth 100000 in
theorem gat_1 : ∀ w ∈ (vx_atS RX7 85 (gxn 1) ["java/lang/RuntimeException", "java/lang/Exception"]).filter goodWord, w ∈ lw_tbl := by decide +kernel
theorem gan_1 : ∀ w ∈ (vx_atS RX7 85 (gxn 1) ["java/lang/RuntimeException", "java/lang/Exception"]).filter (fun w => !goodWord w), w ∈ gNst := by decide +kernel
theorem gag_1 : ∀ w ∈ (vx_atS RX7 85 (gxn 1) ["java/lang/RuntimeException", "java/lang/Exception"]), vx_ot w = true := by decide +kernel
set_option maxRecDepth 100000 in
theorem gat_2 : ∀ w ∈ (vx_atS RX7 96 (gxn 2) ["java/lang/RuntimeException", "java/lang/Exception"]).filter goodWord, w ∈ lw_tbl := by decide +kernel
theorem gan_2 : ∀ w ∈ (vx_atS RX7 96 (gxn 2) ["java/lang/RuntimeException", "java/lang/Exception"]).filter (fun w => !goodWord w), w ∈ gNst := by decide +kernel
theorem gag_2 : ∀ w ∈ (vx_atS RX7 96 (gxn 2) ["java/lang/RuntimeException", "java/lang/Exception"]), vx_ot w = true := by decide +kernel
set_option maxRecDepth 100000 in
theorem gat_0 : ∀ w ∈ (vx_atS RX7 314 (gxn 0) ["java/lang/RuntimeException", "java/lang/Exception"]).filter goodWord, w ∈ lw_tbl := by decide +kernel
theorem gan_0 : ∀ w ∈ (vx_atS RX7 314 (gxn 0) ["java/lang/RuntimeException", "java/lang/Exception"]).filter (fun w => !goodWord w), w ∈ gNst := by decide +kernel
theorem gag_0 : ∀ w ∈ (vx_atS RX7 314 (gxn 0) ["java/lang/RuntimeException", "java/lang/Exception"]), vx_ot w = true := by decide +kernel
theorem guw_0 : ∀ w ∈ u_ws RX0 TX0 2, w ∈ lw_tbl := by decide +kernel
theorem gug_0 : ∀ w ∈ u_ws RX0 TX0 2, goodWord w = true := by decide +kernel
theorem guw_1 : ∀ w ∈ u_ws RX1 TX1 6, w ∈ lw_tbl := by decide +kernel
theorem gug_1 : ∀ w ∈ u_ws RX1 TX1 6, goodWord w = true := by decide +kernel
theorem guw_2 : ∀ w ∈ u_ws RX2 TX2 3, w ∈ lw_tbl := by decide +kernel
theorem gug_2 : ∀ w ∈ u_ws RX2 TX2 3, goodWord w = true := by decide +kernel
theorem guw_3 : ∀ w ∈ u_ws RX3 TX3 14, w ∈ lw_tbl := by decide +kernel
theorem gug_3 : ∀ w ∈ u_ws RX3 TX3 14, goodWord w = true := by decide +kernel
theorem guw_4 : ∀ w ∈ u_ws RX4 TX4 2, w ∈ lw_tbl := by decide +kernel
theorem gug_4 : ∀ w ∈ u_ws RX4 TX4 2, goodWord w = true := by decide +kernel
theorem guw_5 : ∀ w ∈ u_ws RX5 TX5 2, w ∈ lw_tbl := by decide +kernel
theorem gug_5 : ∀ w ∈ u_ws RX5 TX5 2, goodWord w = true := by decide +kernel
theorem guw_6 : ∀ w ∈ u_ws RX6 TX6 11, w ∈ lw_tbl := by decide +kernel
theorem gug_6 : ∀ w ∈ u_ws RX6 TX6 11, goodWord w = true := by decide +kernel
theorem guw_7 : ∀ w ∈ u_ws RX7 TX7 11, w ∈ lw_tbl := by decide +kernel
theorem gug_7 : ∀ w ∈ u_ws RX7 TX7 11, goodWord w = true := by decide +kernel
theorem guw_8 : ∀ w ∈ u_ws RX8 TX8 2, w ∈ lw_tbl := by decide +kernel
theorem gug_8 : ∀ w ∈ u_ws RX8 TX8 2, goodWord w = true := by decide +kernel
theorem guw_9 : ∀ w ∈ u_ws RX9 TX9 6, w ∈ lw_tbl := by decide +kernel
theorem gug_9 : ∀ w ∈ u_ws RX9 TX9 6, goodWord w = true := by decide +kernel
