/-! ===== new Lab (by wip/p61/p99p.py) ===== -/
theorem kw_168 : (Cond.methodLink "ToeplitzLabLaw$Lab" 1 objectInit) ∈ gBig := gBig_of (gpc2 (List.mem_of_getElem? (i := 92) rfl)) rfl
theorem kw_169 : (Cond.classLink "ToeplitzLabLaw$Lab" 7 "java/lang/StringBuilder") ∈ gBig := gBig_of (gpc2 (List.mem_of_getElem? (i := 93) rfl)) rfl
theorem kw_170 : (Cond.instantiable "java/lang/StringBuilder" 4) ∈ gBig := gBig_of (gpc2 (List.mem_of_getElem? (i := 94) rfl)) rfl
theorem kw_171 : (Cond.methodLink "ToeplitzLabLaw$Lab" 11 yJ4_init_a7421) ∈ gBig := gBig_of (gpc2 (List.mem_of_getElem? (i := 96) rfl)) rfl
theorem kw_172 : (Cond.instanceMethod yJ4_init_a7421) ∈ gBig := gBig_of (gpc2 (List.mem_of_getElem? (i := 97) rfl)) rfl
theorem kw_173 : (Cond.code yJ4_init_a7421 cJ4_init_a7421 2 none) ∈ gBig := gBig_of (gpc2 (List.mem_of_getElem? (i := 98) rfl)) rfl
theorem kw_174 : (Cond.arrayClass .int) ∈ gBig := gBig_of (gpc1 (List.mem_of_getElem? (i := 109) rfl)) rfl
theorem kw_175 : (Cond.fieldLink "ToeplitzLabLaw$Lab" 45 "ToeplitzLabLaw$Lab" "prime" "I") ∈ gBig := gBig_of (gpc3 (List.mem_of_getElem? (i := 79) rfl)) rfl
theorem kpr_ok (r : Int) (h1 : 0 ≤ r) (h2 : r ≤ 10) : ∃ q : Nat, ((q : Nat) : Int) ∈ primesL ∧ q < 100 ∧ gprime (gi r).toNatClampNeg = gi (q : Int) := by
  rw [gi_c (by omega) (by omega)]
  obtain ⟨n, rfl⟩ : ∃ n : Nat, r = n := ⟨r.toNat, by omega⟩
  rw [Int.toNat_natCast]
  rcases (show n = 0 ∨ n = 1 ∨ n = 2 ∨ n = 3 ∨ n = 4 ∨ n = 5 ∨ n = 6 ∨ n = 7 ∨ n = 8 ∨ n = 9 ∨ n = 10 by omega) with rfl | rfl | rfl | rfl | rfl | rfl | rfl | rfl | rfl | rfl | rfl
  · exact ⟨2, by decide, by decide, rfl⟩
  · exact ⟨3, by decide, by decide, rfl⟩
  · exact ⟨5, by decide, by decide, rfl⟩
  · exact ⟨7, by decide, by decide, rfl⟩
  · exact ⟨11, by decide, by decide, rfl⟩
  · exact ⟨13, by decide, by decide, rfl⟩
  · exact ⟨17, by decide, by decide, rfl⟩
  · exact ⟨19, by decide, by decide, rfl⟩
  · exact ⟨23, by decide, by decide, rfl⟩
  · exact ⟨29, by decide, by decide, rfl⟩
  · exact ⟨31, by decide, by decide, rfl⟩
theorem nmL_eq {t : List Int} {q : Nat} {l : List Int} (hq : q < 100) : t ++ dgL q ++ l = t ++ nmL (q : Int) l := by
  unfold dgL nmL
  by_cases h : q < 10
  · rw [if_pos h, if_pos (by omega), List.append_assoc]
    rfl
  · rw [if_neg h, if_neg (by omega), List.append_assoc]
    rfl
theorem lab_eq {n q : Nat} {l : List Int} (hn : n < 10) (hq : q < 100) : kCh 0 ++ dgL n ++ kCh 1 ++ dgL q ++ l = wd 0 ++ 32 :: (48 + (n : Int)) :: 32 :: (wd 1 ++ 32 :: nmL (q : Int) l) := by
  rw [nmL_eq hq, show kCh 0 = wd 0 ++ [32] from rfl, show dgL n = [((48 + n : Nat) : Int)] from if_pos hn, show kCh 1 = 32 :: (wd 1 ++ [32]) from rfl]
  simp only [List.append_assoc, List.cons_append, List.nil_append, Int.natCast_add]
  rfl
theorem Bd9_0 : Bd9 (fun _ => 0) := fun _ => (by decide : -9 ≤ (0 : Int32).toInt ∧ (0 : Int32).toInt ≤ 9)
/-- new Lab -/
theorem k_labNew {E : gEn} {K : kEn} {d lb : Nat} (hgl : gL E ≤ 100000) : kM E K yX9_init cX9_init 4 none kRI [.ref lb, .ref d] [(d, kD E 0), (lb, (.inr (9, [.null, .null, .null, .null, .int 0, .int 0]) : va_E))] (fun v ws1 => v = none ∧ ∃ (a tb da sa pa r r1 r2 : Nat) (N pr : Int) (fd f1 f2 : Nat → Int32) (t : List Int), Lw E ws1 d a lb [.ref tb, .ref da, .ref sa, .ref pa, .int (gi N), .int (gi pr)] tb t [(r, da, 13, fd), (r1, sa, 7, f1), (r2, pa, 7, f2)] ∧ r ≠ r1 ∧ r ≠ r2 ∧ r1 ≠ r2 ∧ 1 ≤ N ∧ N ≤ 5 ∧ pr ∈ primesL ∧ Bd9 fd ∧ Bd9 f1 ∧ Bd9 f2 ∧ t = labTx N pr (dvf fd) (svf f1) (svf f2) ∧ a ≤ 60 ∧ t.length ≤ 300) 120 76000 := by
  refine kM_of (by decide) (Nat.le_of_ble_eq_true rfl) ?_
  intro p e s mI args below meth cc hC H locs LS hP hD hS hA hl
  have hC0 := hC
  obtain ⟨hx, hb, hr, hml, hown, htk, hlk, hF, hnm⟩ := hC
  have hts : ∀ w ∈ gBig, w.before args s = true := fun w h => htk w (kBig_g h)
  have hE := hF.1
  have hK := hE.1
  have hl : lv_has LS 4 [(0, .ref lb), (1, .ref d)] := hl
  refine lv_aload_n hx hb (show decode cX9_init 0 = .ok (.aload_n 0, 1) by decide +kernel) rfl (lv_at hl 0 rfl) ?_
  refine W.objInit hx hb hown (hts _ kw_168) (hts _ gwi_1) (hts _ gwi_2) rfl (by rw [hml]; exact hl.1) rfl (show decode cX9_init 1 = .ok (.invokespecial 1, 3) by decide +kernel) (Nat.le_of_ble_eq_true rfl) (Nat.le_of_ble_eq_true rfl) ?_
  refine W.eq (g2 := F0 mI 4 LS []) rfl ?_
  refine lv_aload_n hx hb (show decode cX9_init 4 = .ok (.aload_n 0, 1) by decide +kernel) rfl (lv_at hl 0 rfl) ?_
  refine va_new (ci := 11) (fs := [.null, .int 0, .int 0, .int 0]) (C := RJ4) (T := TJ4) (N := 4) hx hb hts kgb ktyJ4 ktyJ4_ok hown (hts _ kw_169) (hts _ kw_170) (hts _ kw_92) hK hP hD hS hA rfl (fun j hj => by rcases (show j = 0 ∨ j = 1 ∨ j = 2 ∨ j = 3 by omega) with rfl | rfl | rfl | rfl <;> rfl) (Nat.le_of_ble_eq_true rfl) (Nat.le_of_ble_eq_true rfl) (show decode cX9_init 5 = .ok (.new 7, 3) by decide +kernel) (fun tb H hP hD hS => ?_)
  refine lv_dup hx hb (show decode cX9_init 8 = .ok (.dup, 1) by decide +kernel) rfl ?_
  refine va_ldcS hx hb hown (hF.2.2.1.1.1 (9, "toeplitz ", 0) (by decide)) (show decode cX9_init 9 = .ok (.ldc 9, 2) by decide +kernel) ?_
  have h2 : ([(d, kD E 0), (lb, (.inr (9, [.null, .null, .null, .null, .int 0, .int 0]) : va_E))] ++ [(tb, (.inr (11, [.null, .int 0, .int 0, .int 0]) : va_E))])[2]? = some (tb, (.inr (11, [.null, .int 0, .int 0, .int 0]) : va_E)) := rfl
  refine k_callI (mc := 2) (ms := 726) (As := [.ref (K.1 0)]) (rest := [.ref tb, .ref lb]) ⟨hx, hb, hml, hown, htk, hF⟩ (show decode cX9_init 11 = .ok (.invokespecial 11, 3) by decide +kernel) ⟨kw_171, kw_172, kw_92, kw_173⟩ rfl (np := 1) (by decide +kernel) rfl ⟨Nat.le_of_ble_eq_true rfl, Nat.le_of_ble_eq_true rfl⟩ ⟨rfl, rfl⟩ hl.1 (Nat.le_of_ble_eq_true rfl) ⟨Nat.le_of_ble_eq_true rfl, Nat.le_of_ble_eq_true rfl⟩ hP hD hS (k_sbNew h2 (k := 0) (by decide)) (fun v ws H locs hv hP hD hS => ?_)
  obtain ⟨rfl, q1, b, m, f, hSb, hq1, hfr⟩ := hv
  have hLw : Lw E ws d 0 lb [.null, .null, .null, .null, .int 0, .int 0] tb (kCh 0) [] := ⟨(hfr.2 0 (by show 0 < 3; decide) (by decide) (by show 0 ≠ 3; decide)).trans rfl, (hfr.2 1 (by show 1 < 3; decide) (by decide) (by show 1 ≠ 3; decide)).trans rfl, ⟨q1, b, m, f, hq1, fun x hx => absurd hx List.not_mem_nil, hSb⟩, fun x hx => absurd hx List.not_mem_nil⟩
  clear hfr hSb hq1
  refine va_putF (D := gD E) (ci := 9) (v := .ref tb) (ty := .object "java/lang/StringBuilder") (C := RX9) (T := TX9) (N := 6) hx hb hts (fun w hw => gBig_of (guw_9 w hw) (gug_9 w hw)) tyX9 tyX9_ok (by decide +kernel) hown hK hP hD hS 1 hLw.2.1 rfl 0 (by decide) (hts _ kw_165) (fun _ h9 => h9) rfl hnm rfl (by decide +kernel) rfl rfl (Nat.le_of_ble_eq_true rfl) (show decode cX9_init 14 = .ok (.putfield 14, 3) by decide +kernel) (fun H locs hP hD hS => ?_)
  have hLw := hLw.fw [.ref tb, .null, .null, .null, .int 0, .int 0]
  refine lv_aload_n hx hb (show decode cX9_init 17 = .ok (.aload_n 0, 1) by decide +kernel) rfl (lv_at hl 0 rfl) ?_
  refine lv_bipush (v := 13) hx hb (show decode cX9_init 18 = .ok (.bipush 13, 2) by decide +kernel) (by decide) ?_
  refine va_newa (atype := .int) (ty := .int) (a0 := (13, .inl (fun _ => 0))) (N' := 13) hx hb (hts _ kw_174) rfl hK hP hD hS hA (fun _ => rfl) (by decide) (by decide) (by decide) (Nat.le_of_ble_eq_true rfl) (Nat.le_of_ble_eq_true rfl) (show decode cX9_init 20 = .ok (.newarray .int, 2) by decide +kernel) (fun da cA H hK2 hP hD hS => ?_)
  have hcA : cA = gca E 0 := gca_eq hK2 0 rfl rfl
  subst hcA
  clear hK2
  obtain ⟨r, hnr, hLw⟩ := hLw.newE da 13 (fun _ => 0)
  refine va_putF (D := gD E) (ci := 9) (v := .ref da) (ty := .array .int) (C := RX9) (T := TX9) (N := 6) hx hb hts (fun w hw => gBig_of (guw_9 w hw) (gug_9 w hw)) tyX9 tyX9_ok (by decide +kernel) hown hK hP hD hS 1 hLw.2.1 rfl 1 (by decide) (hts _ kw_164) (fun _ h9 => h9) rfl hnm rfl (by decide +kernel) rfl rfl (Nat.le_of_ble_eq_true rfl) (show decode cX9_init 22 = .ok (.putfield 20, 3) by decide +kernel) (fun H locs hP hD hS => ?_)
  have hLw := hLw.fw [.ref tb, .ref da, .null, .null, .int 0, .int 0]
  refine lv_aload_n hx hb (show decode cX9_init 25 = .ok (.aload_n 0, 1) by decide +kernel) rfl (lv_at hl 0 rfl) ?_
  refine lv_bipush (v := 7) hx hb (show decode cX9_init 26 = .ok (.bipush 7, 2) by decide +kernel) (by decide) ?_
  refine va_newa (atype := .int) (ty := .int) (a0 := (7, .inl (fun _ => 0))) (N' := 7) hx hb (hts _ kw_174) rfl hK hP hD hS hA (fun _ => rfl) (by decide) (by decide) (by decide) (Nat.le_of_ble_eq_true rfl) (Nat.le_of_ble_eq_true rfl) (show decode cX9_init 28 = .ok (.newarray .int, 2) by decide +kernel) (fun sa cA H hK2 hP hD hS => ?_)
  have hcA : cA = gca E 0 := gca_eq hK2 0 rfl rfl
  subst hcA
  clear hK2
  obtain ⟨r1, hnr1, hLw⟩ := hLw.newE sa 7 (fun _ => 0)
  refine va_putF (D := gD E) (ci := 9) (v := .ref sa) (ty := .array .int) (C := RX9) (T := TX9) (N := 6) hx hb hts (fun w hw => gBig_of (guw_9 w hw) (gug_9 w hw)) tyX9 tyX9_ok (by decide +kernel) hown hK hP hD hS 1 hLw.2.1 rfl 2 (by decide) (hts _ kw_166) (fun _ h9 => h9) rfl hnm rfl (by decide +kernel) rfl rfl (Nat.le_of_ble_eq_true rfl) (show decode cX9_init 30 = .ok (.putfield 24, 3) by decide +kernel) (fun H locs hP hD hS => ?_)
  have hLw := hLw.fw [.ref tb, .ref da, .ref sa, .null, .int 0, .int 0]
  refine lv_aload_n hx hb (show decode cX9_init 33 = .ok (.aload_n 0, 1) by decide +kernel) rfl (lv_at hl 0 rfl) ?_
  refine lv_bipush (v := 7) hx hb (show decode cX9_init 34 = .ok (.bipush 7, 2) by decide +kernel) (by decide) ?_
  refine va_newa (atype := .int) (ty := .int) (a0 := (7, .inl (fun _ => 0))) (N' := 7) hx hb (hts _ kw_174) rfl hK hP hD hS hA (fun _ => rfl) (by decide) (by decide) (by decide) (Nat.le_of_ble_eq_true rfl) (Nat.le_of_ble_eq_true rfl) (show decode cX9_init 36 = .ok (.newarray .int, 2) by decide +kernel) (fun pa cA H hK2 hP hD hS => ?_)
  have hcA : cA = gca E 0 := gca_eq hK2 0 rfl rfl
  subst hcA
  clear hK2
  obtain ⟨r2, hnr2, hLw⟩ := hLw.newE pa 7 (fun _ => 0)
  refine va_putF (D := gD E) (ci := 9) (v := .ref pa) (ty := .array .int) (C := RX9) (T := TX9) (N := 6) hx hb hts (fun w hw => gBig_of (guw_9 w hw) (gug_9 w hw)) tyX9 tyX9_ok (by decide +kernel) hown hK hP hD hS 1 hLw.2.1 rfl 3 (by decide) (hts _ kw_167) (fun _ h9 => h9) rfl hnm rfl (by decide +kernel) rfl rfl (Nat.le_of_ble_eq_true rfl) (show decode cX9_init 38 = .ok (.putfield 27, 3) by decide +kernel) (fun H locs hP hD hS => ?_)
  have hLw := hLw.fw [.ref tb, .ref da, .ref sa, .ref pa, .int 0, .int 0]
  refine lv_aload_n hx hb (show decode cX9_init 41 = .ok (.aload_n 0, 1) by decide +kernel) rfl (lv_at hl 0 rfl) ?_
  refine lv_aload_n hx hb (show decode cX9_init 42 = .ok (.aload_n 1, 1) by decide +kernel) rfl (lv_at hl 1 rfl) ?_
  refine lv_iconst (v := gi (1)) hx hb (show decode cX9_init 43 = .ok (.iconst 1, 1) by decide +kernel) (by decide) ?_
  refine lv_iconst (v := gi (5)) hx hb (show decode cX9_init 44 = .ok (.iconst 5, 1) by decide +kernel) (by decide) ?_
  refine lw_D (lo := 1) (hi := 5) hC0 hLw (by omega) (by omega) (by omega) (by omega) hgl (show decode cX9_init 45 = .ok (.invokevirtual 30, 3) by decide +kernel) (Nat.le_of_ble_eq_true rfl) (Nat.le_of_ble_eq_true rfl) (Nat.le_of_ble_eq_true rfl) hl.1 hP hD hS (fun N ws H locs N1 N2 hLw hP hD hS => ?_)
  refine va_put (D := gD E) (ci := 9) (v := .int (gi N)) (ty := .int) (C := RX9) (T := TX9) (N := 6) hx hb hts (fun w hw => gBig_of (guw_9 w hw) (gug_9 w hw)) tyX9 tyX9_ok (by decide +kernel) hown hK hP hD hS 1 hLw.2.1 rfl 4 (by decide) (hts _ kw_163) (fun _ h9 => h9) rfl (by decide +kernel) rfl rfl (Nat.le_of_ble_eq_true rfl) (show decode cX9_init 48 = .ok (.putfield 36, 3) by decide +kernel) (fun H locs hP hD hS => ?_)
  have hLw := hLw.fw [.ref tb, .ref da, .ref sa, .ref pa, .int (gi N), .int 0]
  obtain ⟨n, rfl⟩ : ∃ n : Nat, N = n := ⟨N.toNat, by omega⟩
  skip
  obtain ⟨g1, g2, g3, g4, g5, g6, g5b, g6b, g7, g8, g10, g11, g12, g13, g14, g17, g15, g16⟩ := id hE
  refine lv_aload_n hx hb (show decode cX9_init 51 = .ok (.aload_n 0, 1) by decide +kernel) rfl (lv_at hl 0 rfl) ?_
  refine va_getsN hx hb g5b hS hown (va_Nw.use rfl hF.2.2.1.1.2) (fun _ h => h) (show decode cX9_init 52 = .ok (.getstatic 40, 3) by decide +kernel) ?_
  refine lv_aload_n hx hb (show decode cX9_init 55 = .ok (.aload_n 1, 1) by decide +kernel) rfl (lv_at hl 1 rfl) ?_
  refine lv_iconst (v := gi (0)) hx hb (show decode cX9_init 56 = .ok (.iconst 0, 1) by decide +kernel) (by decide) ?_
  refine lv_bipush (v := gi (10)) hx hb (show decode cX9_init 57 = .ok (.bipush 10, 2) by decide +kernel) (by decide) ?_
  refine lw_D (lo := 0) (hi := 10) hC0 hLw (by omega) (by omega) (by omega) (by omega) hgl (show decode cX9_init 59 = .ok (.invokevirtual 30, 3) by decide +kernel) (Nat.le_of_ble_eq_true rfl) (Nat.le_of_ble_eq_true rfl) (Nat.le_of_ble_eq_true rfl) hl.1 hP hD hS (fun j ws H locs j1 j2 hLw hP hD hS => ?_)
  obtain ⟨q, hq1, hq2, hq3⟩ := kpr_ok j j1 j2
  refine va_ti hx hb g6b hS (gvp (by omega) (by omega) (by omega)) (congrArg Value.int hq3) (show decode cX9_init 62 = .ok (.iaload, 1) by decide +kernel) ?_
  refine va_put (D := gD E) (ci := 9) (v := .int (gi (q : Int))) (ty := .int) (C := RX9) (T := TX9) (N := 6) hx hb hts (fun w hw => gBig_of (guw_9 w hw) (gug_9 w hw)) tyX9 tyX9_ok (by decide +kernel) hown hK hP hD hS 1 hLw.2.1 rfl 5 (by decide) (hts _ kw_175) (fun _ h9 => h9) rfl (by decide +kernel) rfl rfl (Nat.le_of_ble_eq_true rfl) (show decode cX9_init 63 = .ok (.putfield 45, 3) by decide +kernel) (fun H locs hP hD hS => ?_)
  have hLw := hLw.fw [.ref tb, .ref da, .ref sa, .ref pa, .int (gi (n : Int)), .int (gi (q : Int))]
  refine lv_aload_n hx hb (show decode cX9_init 66 = .ok (.aload_n 0, 1) by decide +kernel) rfl (lv_at hl 0 rfl) ?_
  refine va_get (D := gD E) (ci := 9) (C := RX9) (T := TX9) (N := 6) hx hb hts (fun w hw => gBig_of (guw_9 w hw) (gug_9 w hw)) hown hK hP 1 hLw.2.1 rfl 0 (by decide) (hts _ kw_165) (fun _ h9 => h9) rfl (show decode cX9_init 67 = .ok (.getfield 14, 3) by decide +kernel) ?_
  refine lv_aload_n hx hb (show decode cX9_init 70 = .ok (.aload_n 0, 1) by decide +kernel) rfl (lv_at hl 0 rfl) ?_
  refine va_get (D := gD E) (ci := 9) (C := RX9) (T := TX9) (N := 6) hx hb hts (fun w hw => gBig_of (guw_9 w hw) (gug_9 w hw)) hown hK hP 1 hLw.2.1 rfl 4 (by decide) (hts _ kw_163) (fun _ h9 => h9) rfl (show decode cX9_init 71 = .ok (.getfield 36, 3) by decide +kernel) ?_
  refine lw_I (x := n) hC0 hLw (by show 9 ≤ 348; decide) (by omega) (show decode cX9_init 74 = .ok (.invokevirtual 48, 3) by decide +kernel) (Nat.le_of_ble_eq_true rfl) (Nat.le_of_ble_eq_true rfl) (Nat.le_of_ble_eq_true rfl) hl.1 hP hD hS (fun ws H locs hLw hP hD hS => ?_)
  refine va_ldcS hx hb hown (hF.2.2.1.1.1 (52, " prime ", 1) (by decide)) (show decode cX9_init 77 = .ok (.ldc 52, 2) by decide +kernel) ?_
  have s0 : (kCh 0).length = 9 := rfl
  have s1 : (kCh 1).length = 7 := rfl
  have s2 : (dgL n).length = 1 := by unfold dgL; rw [if_pos (by omega)]; rfl
  have s3 : (dgL q).length ≤ 2 := by rw [dgL_len]; unfold ksz; split <;> omega
  refine lw_S (k := 1) hC0 hLw (by simp only [List.length_append]; omega) (by decide) (show decode cX9_init 79 = .ok (.invokevirtual 54, 3) by decide +kernel) (Nat.le_of_ble_eq_true rfl) (Nat.le_of_ble_eq_true rfl) (Nat.le_of_ble_eq_true rfl) hl.1 hP hD hS (fun ws H locs hLw hP hD hS => ?_)
  refine lv_aload_n hx hb (show decode cX9_init 82 = .ok (.aload_n 0, 1) by decide +kernel) rfl (lv_at hl 0 rfl) ?_
  refine va_get (D := gD E) (ci := 9) (C := RX9) (T := TX9) (N := 6) hx hb hts (fun w hw => gBig_of (guw_9 w hw) (gug_9 w hw)) hown hK hP 1 hLw.2.1 rfl 5 (by decide) (hts _ kw_175) (fun _ h9 => h9) rfl (show decode cX9_init 83 = .ok (.getfield 45, 3) by decide +kernel) ?_
  refine lw_I (x := q) hC0 hLw (by simp only [List.length_append]; omega) (by omega) (show decode cX9_init 86 = .ok (.invokevirtual 48, 3) by decide +kernel) (Nat.le_of_ble_eq_true rfl) (Nat.le_of_ble_eq_true rfl) (Nat.le_of_ble_eq_true rfl) hl.1 hP hD hS (fun ws H locs hLw hP hD hS => ?_)
  refine lv_pop hx hb (show decode cX9_init 89 = .ok (.pop, 1) by decide +kernel) rfl ?_
  refine lv_iconst (v := gi (1)) hx hb (show decode cX9_init 90 = .ok (.iconst 1, 1) by decide +kernel) (by decide) ?_
  refine lv_aload_n hx hb (show decode cX9_init 91 = .ok (.aload_n 0, 1) by decide +kernel) rfl (lv_at hl 0 rfl) ?_
  refine va_get (D := gD E) (ci := 9) (C := RX9) (T := TX9) (N := 6) hx hb hts (fun w hw => gBig_of (guw_9 w hw) (gug_9 w hw)) hown hK hP 1 hLw.2.1 rfl 4 (by decide) (hts _ kw_163) (fun _ h9 => h9) rfl (show decode cX9_init 92 = .ok (.getfield 36, 3) by decide +kernel) ?_
  refine lv_isub hx hb (show decode cX9_init 95 = .ok (.isub, 1) by decide +kernel) ?_
  rw [gi_sub]
  refine lv_istore_n hx hb (show decode cX9_init 96 = .ok (.istore_n 2, 1) by decide +kernel) rfl hl (by decide) rfl (fun LS hl => ?_)
  have hl : lv_has LS 4 [(2, .int (gi (1 - (n : Int)))), (0, .ref lb), (1, .ref d)] := hl
  have n1 : r ≠ r1 := hnr1 _ (List.mem_singleton.mpr rfl)
  have n2 : r ≠ r2 := hnr2 (r, da, 13, fun _ => 0) (by simp)
  have n3 : r1 ≠ r2 := hnr2 (r1, sa, 7, fun _ => 0) (by simp)
  refine lw_diag (f1 := fun _ => 0) (f2 := fun _ => 0) hC0 hgl (by omega) n1 n2 (2 * n - 1) (1 - (n : Int)) _ H locs LS _ (fun _ => 0) _ _ _ (by omega) (by omega) (by omega) (by simp only [List.length_append]; omega) (by omega) (by omega) Bd9_0 hLw hl hP hD hS ?_
  intro ws H locs LS t fd a c w q1 q2 q3 q4 q5 hLw q7 q8 hl hP hD hS
  have q2 := Nat.le_trans q2 (show _ ≤ 154 by simp only [List.length_append]; omega)
  refine lv_iconst (v := gi (0)) hx hb (show decode cX9_init 169 = .ok (.iconst 0, 1) by decide +kernel) (by decide) ?_
  refine lv_istore_n hx hb (show decode cX9_init 170 = .ok (.istore_n 2, 1) by decide +kernel) rfl hl (by decide) rfl (fun LS hl => ?_)
  have hl : lv_has LS 4 [(2, .int (gi ((0 : Nat) : Int))), (0, .ref lb), (1, .ref d)] := hl
  refine lw_rows (f0 := fd) hC0 hgl (by omega) (by omega) n1 n2 n3 n 0 _ H locs LS t (fun _ => 0) (fun _ => 0) a c w (by omega) (by omega) (by omega) (by omega) (by omega) Bd9_0 Bd9_0 hLw hl hP hD hS ?_
  intro ws H locs LS t2 f1 f2 a2 c2 w2 p1 p2 p3 p4 p5 p6 hLw p8 p9 hP hD hS
  refine W.widen (k := 120) (n := 76000) (by omega) (by omega) ?_
  refine k_vret hx hb hr hlk (by decide +kernel) hP hD hS ⟨rfl, a2, tb, da, sa, pa, r, r1, r2, (n : Int), (q : Int), fd, f1, f2, t2, hLw, n1, n2, n3, by omega, by omega, hq1, q5, p5, p6, ?_, by omega, by omega⟩
  rw [p8, q7, lab_eq (by omega) hq2]
  unfold labTx
  rw [show (2 * (n : Int) - 1).toNat = 2 * n - 1 by omega, Int.toNat_natCast]
