/-! ===== new Draws; small methods of toString (by wip/p61/p99j.py) ===== -/
theorem kw_114 : (Cond.methodLink "ToeplitzLabLaw$Draws" 1 objectInit) ∈ gBig := gBig_of (gpc2 (List.mem_of_getElem? (i := 74) rfl)) rfl
/-- new Draws -/
theorem k_drawsNew {E : gEn} {K : kEn} {ws : va_W} {qd d : Nat} (h0 : ws[qd]? = some (d, .inr (8, [.null, .int 0]))) : kM E K yX8_init cX8_init 2 none { frames := 1, cells := 0, slots := 0, locals := 20 } [.ref d, .ref (gax E (0, 0, 0))] ws (fun v ws1 => v = none ∧ ws1 = ws.set qd (d, kD E 0)) 0 0 := by
  refine kM_of (by decide) (Nat.le_of_ble_eq_true rfl) ?_
  intro p e s mI args below meth cc hC H locs LS hP hD hS hA hl
  obtain ⟨hx, hb, hr, hml, hown, htk, hlk, hF, hnm⟩ := hC
  have hts : ∀ w ∈ gBig, w.before args s = true := fun w h => htk w (kBig_g h)
  have hE := hF.1
  have hK := hE.1
  have hl : lv_has LS 2 [(0, .ref d), (1, .ref (gax E (0, 0, 0)))] := hl
  refine lv_aload_n hx hb (show decode cX8_init 0 = .ok (.aload_n 0, 1) by decide +kernel) rfl (lv_at hl 0 rfl) ?_
  refine W.objInit hx hb hown (hts _ kw_114) (hts _ gwi_1) (hts _ gwi_2) rfl (by rw [hml]; exact hl.1) rfl (show decode cX8_init 1 = .ok (.invokespecial 1, 3) by decide +kernel) (Nat.le_of_ble_eq_true rfl) (Nat.le_of_ble_eq_true rfl) ?_
  refine W.eq (g2 := F0 mI 4 LS []) rfl ?_
  refine lv_aload_n hx hb (show decode cX8_init 4 = .ok (.aload_n 0, 1) by decide +kernel) rfl (lv_at hl 0 rfl) ?_
  refine lv_aload_n hx hb (show decode cX8_init 5 = .ok (.aload_n 1, 1) by decide +kernel) rfl (lv_at hl 1 rfl) ?_
  refine va_putF (D := gD E) (ci := 8) (v := .ref (gax E (0, 0, 0))) (ty := .array .int) (C := RX8) (T := TX8) (N := 2) hx hb hts (fun w hw => gBig_of (guw_8 w hw) (gug_8 w hw)) tyX8 tyX8_ok (by decide +kernel) hown hK hP hD hS qd h0 rfl 0 (by decide) (hts _ kw_99) (fun _ h9 => h9) rfl hnm rfl (by decide +kernel) rfl rfl (Nat.le_of_ble_eq_true rfl) (show decode cX8_init 6 = .ok (.putfield 7, 3) by decide +kernel) (fun H locs hP hD hS => ?_)
  exact k_vret hx hb hr hlk (by decide +kernel) hP hD hS ⟨rfl, rfl⟩

/-- getValue -/
theorem k_getValue {E : gEn} {K : kEn} {ws : va_W} {q0 q a n : Nat} {z : Int32} (h0 : ws[q0]? = some (q, kB a z n)) : kM E K yJ5_getValue_6d5f1 cJ5_getValue_6d5f1 1 (some (.array .byte)) { frames := 1, cells := 0, slots := 0, locals := 20 } [.ref q] ws (fun v ws1 => v = some (.ref a) ∧ ws1 = ws) 0 0 := by
  refine kM_of (by decide) (Nat.le_of_ble_eq_true rfl) ?_
  intro p e s mI args below meth cc hC H locs LS hP hD hS hA hl
  obtain ⟨hx, hb, hr, hml, hown, htk, hlk, hF, hnm⟩ := hC
  have hts : ∀ w ∈ gBig, w.before args s = true := fun w h => htk w (kBig_g h)
  have hE := hF.1
  have hK := hE.1
  have hl : lv_has LS 1 [(0, .ref q)] := hl
  refine lv_aload_n hx hb (show decode cJ5_getValue_6d5f1 0 = .ok (.aload_n 0, 1) by decide +kernel) rfl (lv_at hl 0 rfl) ?_
  refine va_get (D := gD E) (ci := 11) (C := RJ4) (T := TJ4) (N := 4) hx hb hts kgb hown hK hP q0 h0 rfl 0 (by decide) (hts _ kw_15) (fun _ h9 => h9) rfl (show decode cJ5_getValue_6d5f1 1 = .ok (.getfield 15, 3) by decide +kernel) ?_
  exact k_aret hx hb hr (Or.inr ⟨_, rfl⟩) hlk (by decide +kernel) hP hD hS ⟨rfl, rfl⟩

/-- AbstractStringBuilder.length -/
theorem k_asbLen {E : gEn} {K : kEn} {ws : va_W} {q0 q a n : Nat} {z : Int32} (h0 : ws[q0]? = some (q, kB a z n)) : kM E K yJ5_length_8abf5 cJ5_length_8abf5 1 (some .int) { frames := 1, cells := 0, slots := 0, locals := 20 } [.ref q] ws (fun v ws1 => v = some (.int (gi (n : Int))) ∧ ws1 = ws) 0 0 := by
  refine kM_of (by decide) (Nat.le_of_ble_eq_true rfl) ?_
  intro p e s mI args below meth cc hC H locs LS hP hD hS hA hl
  obtain ⟨hx, hb, hr, hml, hown, htk, hlk, hF, hnm⟩ := hC
  have hts : ∀ w ∈ gBig, w.before args s = true := fun w h => htk w (kBig_g h)
  have hE := hF.1
  have hK := hE.1
  have hl : lv_has LS 1 [(0, .ref q)] := hl
  refine lv_aload_n hx hb (show decode cJ5_length_8abf5 0 = .ok (.aload_n 0, 1) by decide +kernel) rfl (lv_at hl 0 rfl) ?_
  refine va_get (D := gD E) (ci := 11) (C := RJ4) (T := TJ4) (N := 4) hx hb hts kgb hown hK hP q0 h0 rfl 3 (by decide) (hts _ kw_30) (fun _ h9 => h9) rfl (show decode cJ5_length_8abf5 1 = .ok (.getfield 79, 3) by decide +kernel) ?_
  exact k_zret hx hb hr hlk rfl (by decide +kernel) hP hD hS ⟨rfl, rfl⟩

/-- Arrays.checkLength -/
theorem k_checkLength {E : gEn} {K : kEn} {ws : va_W} {x y : Int} (h1 : -2147483648 ≤ x) (h2 : x ≤ y) (h3 : y < 2147483648) : kM E K yJ7_checkLength_df160 cJ7_checkLength_df160 2 none { frames := 1, cells := 0, slots := 0, locals := 20 } [.int (gi x), .int (gi y)] ws (fun v ws1 => v = none ∧ ws1 = ws) 0 0 := by
  refine kM_of (by decide) (Nat.le_of_ble_eq_true rfl) ?_
  intro p e s mI args below meth cc hC H locs LS hP hD hS hA hl
  obtain ⟨hx, hb, hr, hml, hown, htk, hlk, hF, hnm⟩ := hC
  have hts : ∀ w ∈ gBig, w.before args s = true := fun w h => htk w (kBig_g h)
  have hE := hF.1
  have hK := hE.1
  have hl : lv_has LS 2 [(0, .int (gi x)), (1, .int (gi y))] := hl
  refine lv_iload_n hx hb (show decode cJ7_checkLength_df160 0 = .ok (.iload_n 1, 1) by decide +kernel) rfl (lv_at hl 1 rfl) ?_
  refine lv_iload_n hx hb (show decode cJ7_checkLength_df160 1 = .ok (.iload_n 0, 1) by decide +kernel) rfl (lv_at hl 0 rfl) ?_
  refine lv_icmp_ge hx hb (show decode cJ7_checkLength_df160 2 = .ok (.if_icmp .ge 35, 3) by decide +kernel) (tgt := 37) rfl (fun _ => ?_) (fun z => absurd (by rw [gi_le (by omega) (by omega) (by omega) (by omega)]; exact h2) z)
  exact k_vret hx hb hr hlk (by decide +kernel) hP hD hS ⟨rfl, rfl⟩
