/-! ===== draws by kit rows (by wip/p61/p99h.py) ===== -/
theorem kand31 (x : Int32) : ∃ v : Int, 0 ≤ v ∧ v < 2147483648 ∧ (x &&& gi 2147483647) = gi v := by
  refine ⟨((x &&& gi 2147483647).toInt), ?_, ?_, (gi_x _).symm⟩
  · rw [← Int32.toInt_toBitVec]
    have h2 : (x &&& gi 2147483647).toBitVec = x.toBitVec &&& 2147483647#32 := rfl
    rw [h2, BitVec.toInt_eq_msb_cond, BitVec.msb_and]
    simp
    rw [if_neg (fun h => absurd h.2 (by decide))]
    exact Int.natCast_nonneg _
  · exact gi_r2 _
/-- the draws' cell -/
abbrev kD (E : gEn) (a : Nat) : va_E := .inr (8, [.ref (gax E (0, 0, 0)), .int (gi (a : Int))])
theorem kw_98 : (Cond.fieldLink "ToeplitzLabLaw$Draws" 13 "ToeplitzLabLaw$Draws" "at" "I") ∈ gBig := gBig_of (gpc2 (List.mem_of_getElem? (i := 76) rfl)) rfl
theorem kw_99 : (Cond.fieldLink "ToeplitzLabLaw$Draws" 7 "ToeplitzLabLaw$Draws" "cells" "[I") ∈ gBig := gBig_of (gpc2 (List.mem_of_getElem? (i := 75) rfl)) rfl
theorem kw_100 : (Cond.constant "ToeplitzLabLaw$Draws" 17 2147483647) ∈ gBig := gBig_of (gpc2 (List.mem_of_getElem? (i := 86) rfl)) rfl
/-- Draws.next -/
theorem k_next {E : gEn} {K : kEn} {ws : va_W} {qd d a : Nat} {lo hi : Int} (h0 : ws[qd]? = some (d, kD E a)) (ha : a ≤ 100000) (hlo : -1000 ≤ lo) (hlh : lo ≤ hi) (hhi : hi ≤ 1000) (hgl : gL E ≤ 100000) : kM E K yX8_next cX8_next 4 (some .int) { frames := 1, cells := 0, slots := 0, locals := 20 } [.ref d, .int (gi lo), .int (gi hi)] ws (fun v ws1 => ∃ r, lo ≤ r ∧ r ≤ hi ∧ v = some (.int (gi r)) ∧ ws1 = ws.set qd (d, kD E (a + 1))) 0 0 := by
  refine kM_of (by decide) (Nat.le_of_ble_eq_true rfl) ?_
  intro p e s mI args below meth cc hC H locs LS hP hD hS hA hl
  obtain ⟨hx, hb, hr, hml, hown, htk, hlk, hF, hnm⟩ := hC
  have hts : ∀ w ∈ gBig, w.before args s = true := fun w h => htk w (kBig_g h)
  have hE := hF.1
  have hK := hE.1
  have hl : lv_has LS 4 [(0, .ref d), (1, .int (gi lo)), (2, .int (gi hi))] := hl
  obtain ⟨g1, g2, g3, g4, g5, g6, g5b, g6b, g7, g8, g10, g11, g12, g13, g14, g17, g15, g16⟩ := id hE
  have e1 : gi (a : Int) + 1 = gi ((a + 1 : Nat) : Int) := by rw [show (1 : Int32) = gi 1 from rfl, gi_add]; rfl
  refine lv_aload_n hx hb (show decode cX8_next 0 = .ok (.aload_n 0, 1) by decide +kernel) rfl (lv_at hl 0 rfl) ?_
  refine va_get (D := gD E) (ci := 8) (C := RX8) (T := TX8) (N := 2) hx hb hts (fun w hw => gBig_of (guw_8 w hw) (gug_8 w hw)) hown hK hP qd h0 rfl 1 (by decide) (hts _ kw_98) (fun _ h9 => h9) rfl (show decode cX8_next 1 = .ok (.getfield 13, 3) by decide +kernel) ?_
  refine lv_aload_n hx hb (show decode cX8_next 4 = .ok (.aload_n 0, 1) by decide +kernel) rfl (lv_at hl 0 rfl) ?_
  refine va_get (D := gD E) (ci := 8) (C := RX8) (T := TX8) (N := 2) hx hb hts (fun w hw => gBig_of (guw_8 w hw) (gug_8 w hw)) hown hK hP qd h0 rfl 0 (by decide) (hts _ kw_99) (fun _ h9 => h9) rfl (show decode cX8_next 5 = .ok (.getfield 7, 3) by decide +kernel) ?_
  refine va_slen hx hb g7 g8.2 g8.1 hS (show decode cX8_next 8 = .ok (.arraylength, 1) by decide +kernel) ?_
  rw [gt_nat]
  refine lv_icmp_ge hx hb (show decode cX8_next 9 = .ok (.if_icmp .ge 18, 3) by decide +kernel) (tgt := 27) rfl (fun h9 => ?_) (fun h9 => ?_)
  · refine lv_iconst (v := 0) hx hb (show decode cX8_next 27 = .ok (.iconst 0, 1) by decide +kernel) (by decide) ?_
    rw [show (0 : Int32) = gi 0 from rfl]
    refine lv_istore_n hx hb (show decode cX8_next 28 = .ok (.istore_n 3, 1) by decide +kernel) rfl hl (by decide) rfl (fun LS hl => ?_)
    have hl : lv_has LS 4 [(3, .int (gi (0 : Int))), (0, .ref d), (1, .int (gi lo)), (2, .int (gi hi))] := hl
    refine lv_aload_n hx hb (show decode cX8_next 29 = .ok (.aload_n 0, 1) by decide +kernel) rfl (lv_at hl 1 rfl) ?_
    refine lv_dup hx hb (show decode cX8_next 30 = .ok (.dup, 1) by decide +kernel) rfl ?_
    refine va_get (D := gD E) (ci := 8) (C := RX8) (T := TX8) (N := 2) hx hb hts (fun w hw => gBig_of (guw_8 w hw) (gug_8 w hw)) hown hK hP qd h0 rfl 1 (by decide) (hts _ kw_98) (fun _ h9 => h9) rfl (show decode cX8_next 31 = .ok (.getfield 13, 3) by decide +kernel) ?_
    refine lv_iconst (v := 1) hx hb (show decode cX8_next 34 = .ok (.iconst 1, 1) by decide +kernel) (by decide) ?_
    refine lv_iadd hx hb (show decode cX8_next 35 = .ok (.iadd, 1) by decide +kernel) ?_
    rw [e1]
    refine va_put (D := gD E) (ci := 8) (v := .int (gi ((a + 1 : Nat) : Int))) (ty := .int) (C := RX8) (T := TX8) (N := 2) hx hb hts (fun w hw => gBig_of (guw_8 w hw) (gug_8 w hw)) tyX8 tyX8_ok (by decide +kernel) hown hK hP hD hS qd h0 rfl 1 (by decide) (hts _ kw_98) (fun _ h9 => h9) rfl (by decide +kernel) rfl rfl (Nat.le_of_ble_eq_true rfl) (show decode cX8_next 36 = .ok (.putfield 13, 3) by decide +kernel) (fun H locs hP hD hS => ?_)
    refine lv_iload_n hx hb (show decode cX8_next 39 = .ok (.iload_n 1, 1) by decide +kernel) rfl (lv_at hl 2 rfl) ?_
    refine lv_iload_n hx hb (show decode cX8_next 40 = .ok (.iload_n 3, 1) by decide +kernel) rfl (lv_at hl 0 rfl) ?_
    refine lv_iload_n hx hb (show decode cX8_next 41 = .ok (.iload_n 2, 1) by decide +kernel) rfl (lv_at hl 3 rfl) ?_
    refine lv_iload_n hx hb (show decode cX8_next 42 = .ok (.iload_n 1, 1) by decide +kernel) rfl (lv_at hl 2 rfl) ?_
    refine lv_isub hx hb (show decode cX8_next 43 = .ok (.isub, 1) by decide +kernel) ?_
    refine lv_iconst (v := 1) hx hb (show decode cX8_next 44 = .ok (.iconst 1, 1) by decide +kernel) (by decide) ?_
    refine lv_iadd hx hb (show decode cX8_next 45 = .ok (.iadd, 1) by decide +kernel) ?_
    rw [show (1 : Int32) = gi 1 from rfl, gi_sub, gi_add]
    refine lv_irem hx hb (show decode cX8_next 46 = .ok (.irem, 1) by decide +kernel) (by rw [show (0 : Int32) = gi 0 from rfl, gi_eq (by omega) (by omega) (by omega) (by omega)]; omega) ?_
    refine lv_iadd hx hb (show decode cX8_next 47 = .ok (.iadd, 1) by decide +kernel) ?_
    rw [gi_rem (by omega) (by omega) (by omega) (by omega), gi_add, Int.tmod_eq_emod_of_nonneg (by omega)]
    have b1 := Int.emod_nonneg (0 : Int) (show hi - lo + 1 ≠ 0 by omega)
    have b2 := Int.emod_lt_of_pos (0 : Int) (show 0 < hi - lo + 1 by omega)
    exact k_zret hx hb hr hlk rfl (by decide +kernel) hP hD hS ⟨_, by omega, by omega, rfl, rfl⟩
  · rw [gi_le (by omega) (by omega) (by omega) (by omega)] at h9
    refine lv_aload_n hx hb (show decode cX8_next 12 = .ok (.aload_n 0, 1) by decide +kernel) rfl (lv_at hl 0 rfl) ?_
    refine va_get (D := gD E) (ci := 8) (C := RX8) (T := TX8) (N := 2) hx hb hts (fun w hw => gBig_of (guw_8 w hw) (gug_8 w hw)) hown hK hP qd h0 rfl 0 (by decide) (hts _ kw_99) (fun _ h9 => h9) rfl (show decode cX8_next 13 = .ok (.getfield 7, 3) by decide +kernel) ?_
    refine lv_aload_n hx hb (show decode cX8_next 16 = .ok (.aload_n 0, 1) by decide +kernel) rfl (lv_at hl 0 rfl) ?_
    refine va_get (D := gD E) (ci := 8) (C := RX8) (T := TX8) (N := 2) hx hb hts (fun w hw => gBig_of (guw_8 w hw) (gug_8 w hw)) hown hK hP qd h0 rfl 1 (by decide) (hts _ kw_98) (fun _ h9 => h9) rfl (show decode cX8_next 17 = .ok (.getfield 13, 3) by decide +kernel) ?_
    refine va_sld hx hb g7 g8.2 g8.1 hS (gvp (by omega) (by omega) (by omega)) (show decode cX8_next 20 = .ok (.iaload, 1) by decide +kernel) ?_
    refine lv_ldc (v := 2147483647) hx hb hown (hts _ kw_100) (show decode cX8_next 21 = .ok (.ldc 17, 2) by decide +kernel) ?_
    refine lv_iand hx hb (show decode cX8_next 23 = .ok (.iand, 1) by decide +kernel) ?_
    obtain ⟨y, y1, y2, y3⟩ := kand31 (gXs E (Int32.toNatClampNeg (gi (a : Int))))
    rw [show (2147483647 : Int32) = gi 2147483647 from rfl, y3]
    refine lv_goto hx hb (show decode cX8_next 24 = .ok (.goto 4, 3) by decide +kernel) (tgt := 28) rfl ?_
    refine lv_istore_n hx hb (show decode cX8_next 28 = .ok (.istore_n 3, 1) by decide +kernel) rfl hl (by decide) rfl (fun LS hl => ?_)
    have hl : lv_has LS 4 [(3, .int (gi y)), (0, .ref d), (1, .int (gi lo)), (2, .int (gi hi))] := hl
    refine lv_aload_n hx hb (show decode cX8_next 29 = .ok (.aload_n 0, 1) by decide +kernel) rfl (lv_at hl 1 rfl) ?_
    refine lv_dup hx hb (show decode cX8_next 30 = .ok (.dup, 1) by decide +kernel) rfl ?_
    refine va_get (D := gD E) (ci := 8) (C := RX8) (T := TX8) (N := 2) hx hb hts (fun w hw => gBig_of (guw_8 w hw) (gug_8 w hw)) hown hK hP qd h0 rfl 1 (by decide) (hts _ kw_98) (fun _ h9 => h9) rfl (show decode cX8_next 31 = .ok (.getfield 13, 3) by decide +kernel) ?_
    refine lv_iconst (v := 1) hx hb (show decode cX8_next 34 = .ok (.iconst 1, 1) by decide +kernel) (by decide) ?_
    refine lv_iadd hx hb (show decode cX8_next 35 = .ok (.iadd, 1) by decide +kernel) ?_
    rw [e1]
    refine va_put (D := gD E) (ci := 8) (v := .int (gi ((a + 1 : Nat) : Int))) (ty := .int) (C := RX8) (T := TX8) (N := 2) hx hb hts (fun w hw => gBig_of (guw_8 w hw) (gug_8 w hw)) tyX8 tyX8_ok (by decide +kernel) hown hK hP hD hS qd h0 rfl 1 (by decide) (hts _ kw_98) (fun _ h9 => h9) rfl (by decide +kernel) rfl rfl (Nat.le_of_ble_eq_true rfl) (show decode cX8_next 36 = .ok (.putfield 13, 3) by decide +kernel) (fun H locs hP hD hS => ?_)
    refine lv_iload_n hx hb (show decode cX8_next 39 = .ok (.iload_n 1, 1) by decide +kernel) rfl (lv_at hl 2 rfl) ?_
    refine lv_iload_n hx hb (show decode cX8_next 40 = .ok (.iload_n 3, 1) by decide +kernel) rfl (lv_at hl 0 rfl) ?_
    refine lv_iload_n hx hb (show decode cX8_next 41 = .ok (.iload_n 2, 1) by decide +kernel) rfl (lv_at hl 3 rfl) ?_
    refine lv_iload_n hx hb (show decode cX8_next 42 = .ok (.iload_n 1, 1) by decide +kernel) rfl (lv_at hl 2 rfl) ?_
    refine lv_isub hx hb (show decode cX8_next 43 = .ok (.isub, 1) by decide +kernel) ?_
    refine lv_iconst (v := 1) hx hb (show decode cX8_next 44 = .ok (.iconst 1, 1) by decide +kernel) (by decide) ?_
    refine lv_iadd hx hb (show decode cX8_next 45 = .ok (.iadd, 1) by decide +kernel) ?_
    rw [show (1 : Int32) = gi 1 from rfl, gi_sub, gi_add]
    refine lv_irem hx hb (show decode cX8_next 46 = .ok (.irem, 1) by decide +kernel) (by rw [show (0 : Int32) = gi 0 from rfl, gi_eq (by omega) (by omega) (by omega) (by omega)]; omega) ?_
    refine lv_iadd hx hb (show decode cX8_next 47 = .ok (.iadd, 1) by decide +kernel) ?_
    rw [gi_rem (by omega) (by omega) (by omega) (by omega), gi_add, Int.tmod_eq_emod_of_nonneg (by omega)]
    have b1 := Int.emod_nonneg y (show hi - lo + 1 ≠ 0 by omega)
    have b2 := Int.emod_lt_of_pos y (show 0 < hi - lo + 1 by omega)
    exact k_zret hx hb hr hlk rfl (by decide +kernel) hP hD hS ⟨_, by omega, by omega, rfl, rfl⟩
