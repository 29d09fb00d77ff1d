/-! ===== toString (by wip/p61/p99l.py) ===== -/
theorem kw_127 : (Cond.methodLink "java/lang/StringBuilder" 343 yJ5_length_8abf5) ∈ gBig := gBig_of (gpc6 (List.mem_of_getElem? (i := 162) rfl)) rfl
theorem kw_128 : (Cond.sameMethod "java/lang/AbstractStringBuilder" "java/lang/AbstractStringBuilder" "length" "()I") ∈ gBig := gBig_of (gpc6 (List.mem_of_getElem? (i := 158) rfl)) rfl
theorem kw_129 : (Cond.instanceMethod yJ5_length_8abf5) ∈ gBig := gBig_of (gpc6 (List.mem_of_getElem? (i := 157) rfl)) rfl
theorem kw_130 : (Cond.code yJ5_length_8abf5 cJ5_length_8abf5 1 (some .int)) ∈ gBig := gBig_of (gpc6 (List.mem_of_getElem? (i := 163) rfl)) rfl
/-- StringBuilder.length -/
theorem k_sbLen {E : gEn} {K : kEn} {ws : va_W} {q0 q a n : Nat} {z : Int32} (h0 : ws[q0]? = some (q, kB a z n)) : kM E K yJ4_length_8abf5 cJ4_length_8abf5 1 (some .int) { frames := 2, cells := 0, slots := 0, locals := 50 } [.ref q] ws (fun v ws1 => v = some (.int (gi (n : Int))) ∧ ws1 = ws) 0 0 := by
  refine kM_of (by decide) (Nat.le_of_ble_eq_true rfl) ?_
  intro p e s mI args below meth cc hC H locs LS hP hD hS hA hl
  obtain ⟨hx, hb, hr, hml, hown, htk, hlk, hF, hnm⟩ := hC
  have hts : ∀ w ∈ gBig, w.before args s = true := fun w h => htk w (kBig_g h)
  have hE := hF.1
  have hK := hE.1
  have hl : lv_has LS 1 [(0, .ref q)] := hl
  refine lv_aload_n hx hb (show decode cJ4_length_8abf5 0 = .ok (.aload_n 0, 1) by decide +kernel) rfl (lv_at hl 0 rfl) ?_
  refine k_callX (qc := (RJ4, TJ4, 4)) (ci := 11) (As := []) (rest := []) ⟨hx, hb, hml, hown, htk, hF⟩ (show decode cJ4_length_8abf5 1 = .ok (.invokespecial 343, 3) by decide +kernel) ⟨kw_127, kw_128, kw_46, kw_129, kw_24, kw_130⟩ (np := 0) (by decide +kernel) rfl ⟨Nat.le_of_ble_eq_true rfl, Nat.le_of_ble_eq_true rfl⟩ ⟨rfl, rfl⟩ rfl h0 hl.1 (Nat.le_of_ble_eq_true rfl) ⟨Nat.le_of_ble_eq_true rfl, Nat.le_of_ble_eq_true rfl⟩ hP hD hS (k_asbLen h0) (fun v ws9 H locs hv hP hD hS => ?_)
  obtain ⟨rfl, e9⟩ := hv
  rw [e9] at hP hD
  clear e9
  exact k_zret hx hb hr hlk rfl (by decide +kernel) hP hD hS ⟨rfl, rfl⟩
