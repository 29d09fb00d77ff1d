/-! ===== appends of texts (by wip/p61/p99f.py) ===== -/
/-- the law's texts as numbers -/
def kChL : List (List Int) := [[116, 111, 101, 112, 108, 105, 116, 122, 32], [32, 112, 114, 105, 109, 101, 32], [59, 100, 105, 97, 103, 111, 110, 97, 108, 32], [59, 115, 105, 100, 101, 32], [59, 112, 114, 111, 98, 101, 32]]
def kCh (k : Nat) : List Int := kChL.getD k []
theorem kCh_ok : ∀ k, k < 5 → kTl.getD k 0 = (kCh k).length ∧ (kCh k).length ≤ 10 ∧ ∀ i, i < (kCh k).length → (kTb.getD k []).getD i 0 = gi ((kCh k).getD i 0) ∧ fits .byte (.int ((kTb.getD k []).getD i 0)) = true := by decide +kernel
theorem kcpy_fit {f g : Nat → Int32} {d n : Nat} (hf : ∀ i, i < n → fits .byte (.int (f i)) = true) (hg : ∀ i, fits .byte (.int (g i)) = true) : ∀ i, fits .byte (.int (va_cpy f g 0 d n i)) = true := by
  intro i
  by_cases h : d ≤ i ∧ i < d + n
  · rw [pk_cpy_in h.1 h.2, Nat.zero_add]
    exact hf _ (by omega)
  · rw [pk_cpy_out (by omega)]
    exact hg i
theorem kw_62 : (Cond.methodLink "java/lang/String" 335 yJ0_coder_7d493) ∈ gBig := gBig_of (gpc2 (List.mem_of_getElem? (i := 107) rfl)) rfl
theorem kw_63 : (Cond.instanceMethod yJ0_coder_7d493) ∈ gBig := gBig_of (gpc2 (List.mem_of_getElem? (i := 108) rfl)) rfl
theorem kw_64 : (Cond.selects "java/lang/String" yJ0_coder_7d493 yJ0_coder_7d493) ∈ gBig := gBig_of (gpc2 (List.mem_of_getElem? (i := 109) rfl)) rfl
theorem kw_65 : (Cond.initialized "java/lang/String") ∈ gBig := gBig_of (gpc1 (List.mem_of_getElem? (i := 5) rfl)) rfl
theorem kw_66 : (Cond.code yJ0_coder_7d493 cJ0_coder_7d493 1 (some .byte)) ∈ gBig := gBig_of (gpc2 (List.mem_of_getElem? (i := 110) rfl)) rfl
theorem kw_67 : (Cond.methodLink "java/lang/AbstractStringBuilder" 40 yJ0_coder_7d493) ∈ gBig := gBig_of (gpc2 (List.mem_of_getElem? (i := 115) rfl)) rfl
theorem kw_68 : (Cond.methodLink "java/lang/String" 212 arraycopyName) ∈ gBig := gBig_of (gpc2 (List.mem_of_getElem? (i := 237) rfl)) rfl
theorem kw_69 : (Cond.methodLink "java/lang/AbstractStringBuilder" 397 yJ5_inflateIfNeededFor_a7421) ∈ gBig := gBig_of (gpc2 (List.mem_of_getElem? (i := 210) rfl)) rfl
theorem kw_70 : (Cond.sameMethod "java/lang/AbstractStringBuilder" "java/lang/AbstractStringBuilder" "inflateIfNeededFor" "(Ljava/lang/String;)V") ∈ gBig := gBig_of (gpc6 (List.mem_of_getElem? (i := 212) rfl)) rfl
theorem kw_71 : (Cond.instanceMethod yJ5_inflateIfNeededFor_a7421) ∈ gBig := gBig_of (gpc2 (List.mem_of_getElem? (i := 212) rfl)) rfl
theorem kw_72 : (Cond.code yJ5_inflateIfNeededFor_a7421 cJ5_inflateIfNeededFor_a7421 2 none) ∈ gBig := gBig_of (gpc2 (List.mem_of_getElem? (i := 213) rfl)) rfl
theorem kw_73 : (Cond.methodLink "java/lang/AbstractStringBuilder" 399 yJ0_getBytes_840e7) ∈ gBig := gBig_of (gpc2 (List.mem_of_getElem? (i := 233) rfl)) rfl
theorem kw_74 : (Cond.instanceMethod yJ0_getBytes_840e7) ∈ gBig := gBig_of (gpc2 (List.mem_of_getElem? (i := 234) rfl)) rfl
theorem kw_75 : (Cond.selects "java/lang/String" yJ0_getBytes_840e7 yJ0_getBytes_840e7) ∈ gBig := gBig_of (gpc2 (List.mem_of_getElem? (i := 235) rfl)) rfl
theorem kw_76 : (Cond.code yJ0_getBytes_840e7 cJ0_getBytes_840e7 4 none) ∈ gBig := gBig_of (gpc2 (List.mem_of_getElem? (i := 236) rfl)) rfl
theorem kw_77 : (Cond.methodLink "java/lang/AbstractStringBuilder" 32 yJ0_length_8abf5) ∈ gBig := gBig_of (gpc2 (List.mem_of_getElem? (i := 103) rfl)) rfl
theorem kw_78 : (Cond.instanceMethod yJ0_length_8abf5) ∈ gBig := gBig_of (gpc2 (List.mem_of_getElem? (i := 104) rfl)) rfl
theorem kw_79 : (Cond.selects "java/lang/String" yJ0_length_8abf5 yJ0_length_8abf5) ∈ gBig := gBig_of (gpc2 (List.mem_of_getElem? (i := 105) rfl)) rfl
theorem kw_80 : (Cond.code yJ0_length_8abf5 cJ0_length_8abf5 1 (some .int)) ∈ gBig := gBig_of (gpc2 (List.mem_of_getElem? (i := 106) rfl)) rfl
theorem kw_81 : (Cond.methodLink "java/lang/AbstractStringBuilder" 208 yJ5_putStringAt_47b60) ∈ gBig := gBig_of (gpc2 (List.mem_of_getElem? (i := 206) rfl)) rfl
theorem kw_82 : (Cond.sameMethod "java/lang/AbstractStringBuilder" "java/lang/AbstractStringBuilder" "putStringAt" "(ILjava/lang/String;)V") ∈ gBig := gBig_of (gpc6 (List.mem_of_getElem? (i := 211) rfl)) rfl
theorem kw_83 : (Cond.instanceMethod yJ5_putStringAt_47b60) ∈ gBig := gBig_of (gpc2 (List.mem_of_getElem? (i := 208) rfl)) rfl
theorem kw_84 : (Cond.code yJ5_putStringAt_47b60 cJ5_putStringAt_47b60 3 none) ∈ gBig := gBig_of (gpc2 (List.mem_of_getElem? (i := 209) rfl)) rfl
theorem kw_85 : (Cond.methodLink "java/lang/StringBuilder" 29 yJ5_append_cf1ce) ∈ gBig := gBig_of (gpc2 (List.mem_of_getElem? (i := 133) rfl)) rfl
theorem kw_86 : (Cond.sameMethod "java/lang/AbstractStringBuilder" "java/lang/AbstractStringBuilder" "append" "(Ljava/lang/String;)Ljava/lang/AbstractStringBuilder;") ∈ gBig := gBig_of (gpc2 (List.mem_of_getElem? (i := 125) rfl)) rfl
theorem kw_87 : (Cond.instanceMethod yJ5_append_cf1ce) ∈ gBig := gBig_of (gpc2 (List.mem_of_getElem? (i := 124) rfl)) rfl
theorem kw_88 : (Cond.code yJ5_append_cf1ce cJ5_append_cf1ce 3 (some (.object "java/lang/AbstractStringBuilder"))) ∈ gBig := gBig_of (gpc2 (List.mem_of_getElem? (i := 135) rfl)) rfl
/-- String.coder of a text -/
theorem k_coder {E : gEn} {K : kEn} {ws : va_W} {k : Nat} (hk : k < 5) : kM E K yJ0_coder_7d493 cJ0_coder_7d493 1 (some .byte) { frames := 1, cells := 0, slots := 0, locals := 20 } [.ref (K.1 k)] ws (fun v ws1 => v = some (.int 0) ∧ ws1 = ws) 0 0 := by
  refine kM_of (by decide) (Nat.le_of_ble_eq_true rfl) ?_
  intro p e s mI args below meth cc hC H locs LS hP hD hS hA hl
  obtain ⟨hx, hb, hr, hml, hown, htk, hlk, hF, hnm⟩ := hC
  have hts : ∀ w ∈ gBig, w.before args s = true := fun w h => htk w (kBig_g h)
  have hE := hF.1
  have hK := hE.1
  have hl : lv_has LS 1 [(0, .ref (K.1 k))] := hl
  obtain ⟨v1, v2, v3, v4⟩ := hF.2.1.1 k hk
  obtain ⟨g1, g2, g3, g4, g5, g6, g5b, g6b, g7, g8, g10, g11, g12, g13, g14, g17, g15, g16⟩ := id hE
  refine va_gets hx hb g13 hS hown (hts _ gws_cs) (fun _ h => h) (show decode cJ0_coder_7d493 0 = .ok (.getstatic 38, 3) by decide +kernel) ?_
  refine lv_if_eq hx hb (show decode cJ0_coder_7d493 3 = .ok (.ifCond .eq 10, 3) by decide +kernel) (tgt := 13) rfl (fun z => absurd z (by decide)) (fun _ => ?_)
  refine lv_aload_n hx hb (show decode cJ0_coder_7d493 6 = .ok (.aload_n 0, 1) by decide +kernel) rfl (lv_at hl 0 rfl) ?_
  refine vk_getf hx hb v2 hS hown (hts _ gws_sc) (fun _ h => h) (show decode cJ0_coder_7d493 7 = .ok (.getfield 15, 3) by decide +kernel) ?_
  refine lv_goto hx hb (show decode cJ0_coder_7d493 10 = .ok (.goto 4, 3) by decide +kernel) (tgt := 14) rfl ?_
  exact k_zret hx hb hr hlk rfl (by decide +kernel) hP hD hS ⟨rfl, rfl⟩

/-- String.length of a text -/
theorem k_slen {E : gEn} {K : kEn} {ws : va_W} {k : Nat} (hk : k < 5) : kM E K yJ0_length_8abf5 cJ0_length_8abf5 1 (some .int) { frames := 2, cells := 0, slots := 0, locals := 50 } [.ref (K.1 k)] ws (fun v ws1 => v = some (.int (gi ((kCh k).length : Int))) ∧ ws1 = ws) 0 0 := by
  refine kM_of (by decide) (Nat.le_of_ble_eq_true rfl) ?_
  intro p e s mI args below meth cc hC H locs LS hP hD hS hA hl
  obtain ⟨hx, hb, hr, hml, hown, htk, hlk, hF, hnm⟩ := hC
  have hts : ∀ w ∈ gBig, w.before args s = true := fun w h => htk w (kBig_g h)
  have hE := hF.1
  have hK := hE.1
  have hl : lv_has LS 1 [(0, .ref (K.1 k))] := hl
  obtain ⟨v1, v2, v3, v4⟩ := hF.2.1.1 k hk
  obtain ⟨g1, g2, g3, g4, g5, g6, g5b, g6b, g7, g8, g10, g11, g12, g13, g14, g17, g15, g16⟩ := id hE
  refine lv_aload_n hx hb (show decode cJ0_length_8abf5 0 = .ok (.aload_n 0, 1) by decide +kernel) rfl (lv_at hl 0 rfl) ?_
  refine vk_getf hx hb v3 hS hown (hts _ gws_sv) (fun _ h => h) (show decode cJ0_length_8abf5 1 = .ok (.getfield 9, 3) by decide +kernel) ?_
  refine va_tlen hx hb v4 hS rfl (show decode cJ0_length_8abf5 4 = .ok (.arraylength, 1) by decide +kernel) ?_
  rw [(kCh_ok k hk).1, gt_nat]
  refine lv_aload_n hx hb (show decode cJ0_length_8abf5 5 = .ok (.aload_n 0, 1) by decide +kernel) rfl (lv_at hl 0 rfl) ?_
  refine k_callV (As := []) (rest := [.int (gi ((kCh k).length : Int))]) ⟨hx, hb, hml, hown, htk, hF⟩ (show decode cJ0_length_8abf5 6 = .ok (.invokevirtual 335, 3) by decide +kernel) ⟨kw_62, kw_63, kw_64, kw_65, kw_66⟩ (np := 0) (by decide +kernel) rfl ⟨Nat.le_of_ble_eq_true rfl, Nat.le_of_ble_eq_true rfl⟩ ⟨rfl, rfl⟩ (vk_recv hF.2.1 hk hS) hl.1 (Nat.le_of_ble_eq_true rfl) ⟨Nat.le_of_ble_eq_true rfl, Nat.le_of_ble_eq_true rfl⟩ hP hD hS (k_coder hk) (fun v ws9 H locs hv hP hD hS => ?_)
  obtain ⟨rfl, e9⟩ := hv
  rw [e9] at hP hD
  clear e9
  refine lv_ishr hx hb (show decode cJ0_length_8abf5 9 = .ok (.ishr, 1) by decide +kernel) ?_
  rw [ksr0]
  exact k_zret hx hb hr hlk rfl (by decide +kernel) hP hD hS ⟨rfl, rfl⟩

/-- inflateIfNeededFor: nothing -/
theorem k_infl {E : gEn} {K : kEn} {ws : va_W} {k q0 q a n : Nat} {z : Int32} (hk : k < 5) (h0 : ws[q0]? = some (q, kB a z n)) : kM E K yJ5_inflateIfNeededFor_a7421 cJ5_inflateIfNeededFor_a7421 2 none { frames := 2, cells := 0, slots := 0, locals := 50 } [.ref q, .ref (K.1 k)] ws (fun v ws1 => v = none ∧ ws1 = ws) 0 0 := by
  refine kM_of (by decide) (Nat.le_of_ble_eq_true rfl) ?_
  intro p e s mI args below meth cc hC H locs LS hP hD hS hA hl
  obtain ⟨hx, hb, hr, hml, hown, htk, hlk, hF, hnm⟩ := hC
  have hts : ∀ w ∈ gBig, w.before args s = true := fun w h => htk w (kBig_g h)
  have hE := hF.1
  have hK := hE.1
  have hl : lv_has LS 2 [(0, .ref q), (1, .ref (K.1 k))] := hl
  obtain ⟨v1, v2, v3, v4⟩ := hF.2.1.1 k hk
  obtain ⟨g1, g2, g3, g4, g5, g6, g5b, g6b, g7, g8, g10, g11, g12, g13, g14, g17, g15, g16⟩ := id hE
  refine va_gets hx hb g13 hS hown (hts _ kw_13) (fun _ h => h) (show decode cJ5_inflateIfNeededFor_a7421 0 = .ok (.getstatic 18, 3) by decide +kernel) ?_
  refine lv_if_eq hx hb (show decode cJ5_inflateIfNeededFor_a7421 3 = .ok (.ifCond .eq 18, 3) by decide +kernel) (tgt := 21) rfl (fun z => absurd z (by decide)) (fun _ => ?_)
  refine lv_aload_n hx hb (show decode cJ5_inflateIfNeededFor_a7421 6 = .ok (.aload_n 0, 1) by decide +kernel) rfl (lv_at hl 0 rfl) ?_
  refine va_get (D := gD E) (ci := 11) (C := RJ4) (T := TJ4) (N := 4) hx hb hts kgb hown hK hP q0 h0 rfl 1 (by decide) (hts _ kw_14) (fun _ h9 => h9) rfl (show decode cJ5_inflateIfNeededFor_a7421 7 = .ok (.getfield 22, 3) by decide +kernel) ?_
  refine lv_aload_n hx hb (show decode cJ5_inflateIfNeededFor_a7421 10 = .ok (.aload_n 1, 1) by decide +kernel) rfl (lv_at hl 1 rfl) ?_
  refine k_callV (As := []) (rest := [.int 0]) ⟨hx, hb, hml, hown, htk, hF⟩ (show decode cJ5_inflateIfNeededFor_a7421 11 = .ok (.invokevirtual 40, 3) by decide +kernel) ⟨kw_67, kw_63, kw_64, kw_65, kw_66⟩ (np := 0) (by decide +kernel) rfl ⟨Nat.le_of_ble_eq_true rfl, Nat.le_of_ble_eq_true rfl⟩ ⟨rfl, rfl⟩ (vk_recv hF.2.1 hk hS) hl.1 (Nat.le_of_ble_eq_true rfl) ⟨Nat.le_of_ble_eq_true rfl, Nat.le_of_ble_eq_true rfl⟩ hP hD hS (k_coder hk) (fun v ws9 H locs hv hP hD hS => ?_)
  obtain ⟨rfl, e9⟩ := hv
  rw [e9] at hP hD
  clear e9
  refine lv_icmp_eq hx hb (show decode cJ5_inflateIfNeededFor_a7421 14 = .ok (.if_icmp .eq 7, 3) by decide +kernel) (tgt := 21) rfl (fun _ => ?_) (fun z => absurd rfl z)
  exact k_vret hx hb hr hlk (by decide +kernel) hP hD hS ⟨rfl, rfl⟩

/-- String.getBytes of a text -/
theorem k_getBytes {E : gEn} {K : kEn} {ws : va_W} {k q1 a m d : Nat} {f : Nat → Int32} (hk : k < 5) (h1 : ws[q1]? = some (a, .inl (gca E 3, m, .inl f))) (hd : d + (kCh k).length ≤ m) (hm9 : m ≤ 30000) : kM E K yJ0_getBytes_840e7 cJ0_getBytes_840e7 4 none { frames := 2, cells := 0, slots := 0, locals := 60 } [.ref (K.1 k), .ref a, .int (gi (d : Int)), .int 0] ws (fun v ws1 => v = none ∧ ws1 = ws.set q1 (a, .inl (gca E 3, m, .inl (va_cpy (fun j => (kTb.getD k []).getD j 0) f 0 d (kCh k).length)))) 0 0 := by
  refine kM_of (by decide) (Nat.le_of_ble_eq_true rfl) ?_
  intro p e s mI args below meth cc hC H locs LS hP hD hS hA hl
  obtain ⟨hx, hb, hr, hml, hown, htk, hlk, hF, hnm⟩ := hC
  have hts : ∀ w ∈ gBig, w.before args s = true := fun w h => htk w (kBig_g h)
  have hE := hF.1
  have hK := hE.1
  have hl : lv_has LS 4 [(0, .ref (K.1 k)), (1, .ref a), (2, .int (gi (d : Int))), (3, .int 0)] := hl
  obtain ⟨v1, v2, v3, v4⟩ := hF.2.1.1 k hk
  obtain ⟨g1, g2, g3, g4, g5, g6, g5b, g6b, g7, g8, g10, g11, g12, g13, g14, g17, g15, g16⟩ := id hE
  obtain ⟨w1, w2, w3⟩ := kCh_ok k hk
  refine lv_aload_n hx hb (show decode cJ0_getBytes_840e7 0 = .ok (.aload_n 0, 1) by decide +kernel) rfl (lv_at hl 0 rfl) ?_
  refine k_callV (As := []) (rest := []) ⟨hx, hb, hml, hown, htk, hF⟩ (show decode cJ0_getBytes_840e7 1 = .ok (.invokevirtual 335, 3) by decide +kernel) ⟨kw_62, kw_63, kw_64, kw_65, kw_66⟩ (np := 0) (by decide +kernel) rfl ⟨Nat.le_of_ble_eq_true rfl, Nat.le_of_ble_eq_true rfl⟩ ⟨rfl, rfl⟩ (vk_recv hF.2.1 hk hS) hl.1 (Nat.le_of_ble_eq_true rfl) ⟨Nat.le_of_ble_eq_true rfl, Nat.le_of_ble_eq_true rfl⟩ hP hD hS (k_coder hk) (fun v ws9 H locs hv hP hD hS => ?_)
  obtain ⟨rfl, e9⟩ := hv
  rw [e9] at hP hD
  clear e9
  refine lv_iload_n hx hb (show decode cJ0_getBytes_840e7 4 = .ok (.iload_n 3, 1) by decide +kernel) rfl (lv_at hl 3 rfl) ?_
  refine lv_icmp_ne hx hb (show decode cJ0_getBytes_840e7 5 = .ok (.if_icmp .ne 23, 3) by decide +kernel) (tgt := 28) rfl (fun z => absurd rfl z) (fun _ => ?_)
  refine lv_aload_n hx hb (show decode cJ0_getBytes_840e7 8 = .ok (.aload_n 0, 1) by decide +kernel) rfl (lv_at hl 0 rfl) ?_
  refine vk_getf hx hb v3 hS hown (hts _ gws_sv) (fun _ h => h) (show decode cJ0_getBytes_840e7 9 = .ok (.getfield 9, 3) by decide +kernel) ?_
  refine lv_iconst (v := 0) hx hb (show decode cJ0_getBytes_840e7 12 = .ok (.iconst 0, 1) by decide +kernel) (by decide) ?_
  refine lv_aload_n hx hb (show decode cJ0_getBytes_840e7 13 = .ok (.aload_n 1, 1) by decide +kernel) rfl (lv_at hl 1 rfl) ?_
  refine lv_iload_n hx hb (show decode cJ0_getBytes_840e7 14 = .ok (.iload_n 2, 1) by decide +kernel) rfl (lv_at hl 2 rfl) ?_
  refine lv_iload_n hx hb (show decode cJ0_getBytes_840e7 15 = .ok (.iload_n 3, 1) by decide +kernel) rfl (lv_at hl 3 rfl) ?_
  refine lv_ishl hx hb (show decode cJ0_getBytes_840e7 16 = .ok (.ishl, 1) by decide +kernel) ?_
  rw [ksh0]
  refine lv_aload_n hx hb (show decode cJ0_getBytes_840e7 17 = .ok (.aload_n 0, 1) by decide +kernel) rfl (lv_at hl 0 rfl) ?_
  refine vk_getf hx hb v3 hS hown (hts _ gws_sv) (fun _ h => h) (show decode cJ0_getBytes_840e7 18 = .ok (.getfield 9, 3) by decide +kernel) ?_
  refine va_tlen hx hb v4 hS rfl (show decode cJ0_getBytes_840e7 21 = .ok (.arraylength, 1) by decide +kernel) ?_
  have en : (Int32.ofNat (kTl.getD k 0)).toNatClampNeg = (kCh k).length := by rw [w1, gt_nat, gi_c (by omega) (by omega)]; exact Int.toNat_natCast _
  have ed : (gi (d : Int)).toNatClampNeg = d := by rw [gi_c (by omega) (by omega)]; exact Int.toNat_natCast _
  have e0 : (0 : Int32).toNatClampNeg = 0 := by decide
  refine vk_copyt hx hb (hml.trans hl.1.symm) hown (hts _ kw_68) (hts _ kw_10) (hts _ kw_11) (hts _ kw_12) hK hP hD hS v4 q1 3 h1 rfl (by decide) (by rw [show (gi (d : Int) < 0) = (gi (d : Int) < gi 0) from rfl, gi_lt (by omega) (by omega) (by omega) (by omega)]; omega) (by rw [w1, gt_nat, show (gi ((kCh k).length : Int) < 0) = (gi ((kCh k).length : Int) < gi 0) from rfl, gi_lt (by omega) (by omega) (by omega) (by omega)]; omega) (by rw [e0, en, w1]; omega) (by rw [ed, en]; omega) (fun i hi => by rw [en] at hi; rw [e0, Nat.zero_add]; exact (w3 i hi).2) (Nat.le_of_ble_eq_true rfl) (Nat.le_of_ble_eq_true rfl) (show decode cJ0_getBytes_840e7 22 = .ok (.invokestatic 212, 3) by decide +kernel) (fun H locs hP hD hS => ?_)
  rw [e0, ed, en] at hP hD
  refine lv_goto hx hb (show decode cJ0_getBytes_840e7 25 = .ok (.goto 18, 3) by decide +kernel) (tgt := 43) rfl ?_
  exact k_vret hx hb hr hlk (by decide +kernel) hP hD hS ⟨rfl, rfl⟩

/-- putStringAt -/
theorem k_putStr {E : gEn} {K : kEn} {ws : va_W} {k q0 q1 q a m n d : Nat} {z : Int32} {f : Nat → Int32} (hk : k < 5) (h0 : ws[q0]? = some (q, kB a z n)) (h1 : ws[q1]? = some (a, .inl (gca E 3, m, .inl f))) (hd : d + (kCh k).length ≤ m) (hm9 : m ≤ 30000) : kM E K yJ5_putStringAt_47b60 cJ5_putStringAt_47b60 3 none { frames := 3, cells := 0, slots := 0, locals := 90 } [.ref q, .int (gi (d : Int)), .ref (K.1 k)] ws (fun v ws1 => v = none ∧ ws1 = ws.set q1 (a, .inl (gca E 3, m, .inl (va_cpy (fun j => (kTb.getD k []).getD j 0) f 0 d (kCh k).length)))) 0 0 := by
  refine kM_of (by decide) (Nat.le_of_ble_eq_true rfl) ?_
  intro p e s mI args below meth cc hC H locs LS hP hD hS hA hl
  obtain ⟨hx, hb, hr, hml, hown, htk, hlk, hF, hnm⟩ := hC
  have hts : ∀ w ∈ gBig, w.before args s = true := fun w h => htk w (kBig_g h)
  have hE := hF.1
  have hK := hE.1
  have hl : lv_has LS 3 [(0, .ref q), (1, .int (gi (d : Int))), (2, .ref (K.1 k))] := hl
  refine lv_aload_n hx hb (show decode cJ5_putStringAt_47b60 0 = .ok (.aload_n 0, 1) by decide +kernel) rfl (lv_at hl 0 rfl) ?_
  refine lv_aload_n hx hb (show decode cJ5_putStringAt_47b60 1 = .ok (.aload_n 2, 1) by decide +kernel) rfl (lv_at hl 2 rfl) ?_
  refine k_callU (C := RJ4) (As := [.ref (K.1 k)]) (rest := []) ⟨hx, hb, hml, hown, htk, hF⟩ (show decode cJ5_putStringAt_47b60 2 = .ok (.invokevirtual 397, 3) by decide +kernel) ⟨kw_69, kw_70, kw_71, kw_24, kw_72⟩ kSel_3 (np := 1) (by decide +kernel) rfl ⟨Nat.le_of_ble_eq_true rfl, Nat.le_of_ble_eq_true rfl⟩ ⟨rfl, rfl⟩ (va_recv hK hP (ci := 11) rfl h0) hl.1 (Nat.le_of_ble_eq_true rfl) ⟨Nat.le_of_ble_eq_true rfl, Nat.le_of_ble_eq_true rfl⟩ hP hD hS (k_infl hk h0) (fun v ws9 H locs hv hP hD hS => ?_)
  obtain ⟨rfl, e9⟩ := hv
  rw [e9] at hP hD
  clear e9
  refine lv_aload_n hx hb (show decode cJ5_putStringAt_47b60 5 = .ok (.aload_n 2, 1) by decide +kernel) rfl (lv_at hl 2 rfl) ?_
  refine lv_aload_n hx hb (show decode cJ5_putStringAt_47b60 6 = .ok (.aload_n 0, 1) by decide +kernel) rfl (lv_at hl 0 rfl) ?_
  refine va_get (D := gD E) (ci := 11) (C := RJ4) (T := TJ4) (N := 4) hx hb hts kgb hown hK hP q0 h0 rfl 0 (by decide) (hts _ kw_15) (fun _ h9 => h9) rfl (show decode cJ5_putStringAt_47b60 7 = .ok (.getfield 15, 3) by decide +kernel) ?_
  refine lv_iload_n hx hb (show decode cJ5_putStringAt_47b60 10 = .ok (.iload_n 1, 1) by decide +kernel) rfl (lv_at hl 1 rfl) ?_
  refine lv_aload_n hx hb (show decode cJ5_putStringAt_47b60 11 = .ok (.aload_n 0, 1) by decide +kernel) rfl (lv_at hl 0 rfl) ?_
  refine va_get (D := gD E) (ci := 11) (C := RJ4) (T := TJ4) (N := 4) hx hb hts kgb hown hK hP q0 h0 rfl 1 (by decide) (hts _ kw_14) (fun _ h9 => h9) rfl (show decode cJ5_putStringAt_47b60 12 = .ok (.getfield 22, 3) by decide +kernel) ?_
  refine k_callV (As := [.ref a, .int (gi (d : Int)), .int 0]) (rest := []) ⟨hx, hb, hml, hown, htk, hF⟩ (show decode cJ5_putStringAt_47b60 15 = .ok (.invokevirtual 399, 3) by decide +kernel) ⟨kw_73, kw_74, kw_75, kw_65, kw_76⟩ (np := 3) (by decide +kernel) rfl ⟨Nat.le_of_ble_eq_true rfl, Nat.le_of_ble_eq_true rfl⟩ ⟨rfl, rfl⟩ (vk_recv hF.2.1 hk hS) hl.1 (Nat.le_of_ble_eq_true rfl) ⟨Nat.le_of_ble_eq_true rfl, Nat.le_of_ble_eq_true rfl⟩ hP hD hS (k_getBytes hk h1 hd hm9) (fun v ws9 H locs hv hP hD hS => ?_)
  obtain ⟨rfl, e9⟩ := hv
  exact k_vret hx hb hr hlk (by decide +kernel) hP hD hS ⟨rfl, e9⟩

/-- AbstractStringBuilder.append(String), a text of the law -/
theorem k_appS {E : gEn} {K : kEn} {ws : va_W} {q0 q1 q a m k : Nat} {z : Int32} {t : List Int} {f : Nat → Int32} (hSb : Sb E ws q0 q1 q z t a m f) (ht : t.length ≤ 340) (hk : k < 5) : kM E K yJ5_append_cf1ce cJ5_append_cf1ce 3 (some (.object "java/lang/AbstractStringBuilder")) { frames := 4, cells := 1, slots := 700, locals := 140 } [.ref q, .ref (K.1 k)] ws (fun v ws1 => v = some (.ref q) ∧ ∃ q2 a2 m2 f2, Sb E ws1 q0 q2 q z (t ++ kCh k) a2 m2 f2 ∧ kFr ws ws1 q0 q1 ∧ (q2 = q1 ∨ ws.length ≤ q2)) 1 700 := by
  refine kM_of (by decide) (Nat.le_of_ble_eq_true rfl) ?_
  intro p e s mI args below meth cc hC H locs LS hP hD hS hA hl
  obtain ⟨hx, hb, hr, hml, hown, htk, hlk, hF, hnm⟩ := hC
  have hts : ∀ w ∈ gBig, w.before args s = true := fun w h => htk w (kBig_g h)
  have hE := hF.1
  have hK := hE.1
  have hl : lv_has LS 3 [(0, .ref q), (1, .ref (K.1 k))] := hl
  obtain ⟨h0, h1, hfit, hlm, hm9, hfx⟩ := id hSb
  obtain ⟨w1, w2, w3⟩ := kCh_ok k hk
  have e1 : gi (t.length : Int) + gi ((kCh k).length : Int) = gi ((t.length + (kCh k).length : Nat) : Int) := by rw [gi_add]; rfl
  refine lv_aload_n hx hb (show decode cJ5_append_cf1ce 0 = .ok (.aload_n 1, 1) by decide +kernel) rfl (lv_at hl 1 rfl) ?_
  refine lv_ifnonnull hx hb (show decode cJ5_append_cf1ce 1 = .ok (.ifnonnull 8, 3) by decide +kernel) (tgt := 9) rfl ?_
  refine lv_aload_n hx hb (show decode cJ5_append_cf1ce 9 = .ok (.aload_n 1, 1) by decide +kernel) rfl (lv_at hl 1 rfl) ?_
  refine k_callV (As := []) (rest := []) ⟨hx, hb, hml, hown, htk, hF⟩ (show decode cJ5_append_cf1ce 10 = .ok (.invokevirtual 32, 3) by decide +kernel) ⟨kw_77, kw_78, kw_79, kw_65, kw_80⟩ (np := 0) (by decide +kernel) rfl ⟨Nat.le_of_ble_eq_true rfl, Nat.le_of_ble_eq_true rfl⟩ ⟨rfl, rfl⟩ (vk_recv hF.2.1 hk hS) hl.1 (Nat.le_of_ble_eq_true rfl) ⟨Nat.le_of_ble_eq_true rfl, Nat.le_of_ble_eq_true rfl⟩ hP hD hS (k_slen hk) (fun v ws9 H locs hv hP hD hS => ?_)
  obtain ⟨rfl, e9⟩ := hv
  rw [e9] at hP hD
  clear e9
  refine lv_istore_n hx hb (show decode cJ5_append_cf1ce 13 = .ok (.istore_n 2, 1) by decide +kernel) rfl hl (by decide) rfl (fun LS hl => ?_)
  have hl : lv_has LS 3 [(2, .int (gi ((kCh k).length : Int))), (0, .ref q), (1, .ref (K.1 k))] := hl
  refine lv_aload_n hx hb (show decode cJ5_append_cf1ce 14 = .ok (.aload_n 0, 1) by decide +kernel) rfl (lv_at hl 1 rfl) ?_
  refine lv_aload_n hx hb (show decode cJ5_append_cf1ce 15 = .ok (.aload_n 0, 1) by decide +kernel) rfl (lv_at hl 1 rfl) ?_
  refine va_get (D := gD E) (ci := 11) (C := RJ4) (T := TJ4) (N := 4) hx hb hts kgb hown hK hP q0 h0 rfl 3 (by decide) (hts _ kw_30) (fun _ h9 => h9) rfl (show decode cJ5_append_cf1ce 16 = .ok (.getfield 79, 3) by decide +kernel) ?_
  refine lv_iload_n hx hb (show decode cJ5_append_cf1ce 19 = .ok (.iload_n 2, 1) by decide +kernel) rfl (lv_at hl 0 rfl) ?_
  refine lv_iadd hx hb (show decode cJ5_append_cf1ce 20 = .ok (.iadd, 1) by decide +kernel) ?_
  rw [e1]
  refine k_callU (C := RJ4) (As := [.int (gi ((t.length + (kCh k).length : Nat) : Int))]) (rest := []) ⟨hx, hb, hml, hown, htk, hF⟩ (show decode cJ5_append_cf1ce 21 = .ok (.invokevirtual 100, 3) by decide +kernel) ⟨kw_31, kw_32, kw_33, kw_24, kw_34⟩ kSel_0 (np := 1) (by decide +kernel) rfl ⟨Nat.le_of_ble_eq_true rfl, Nat.le_of_ble_eq_true rfl⟩ ⟨rfl, rfl⟩ (va_recv hK hP (ci := 11) rfl h0) hl.1 (Nat.le_of_ble_eq_true rfl) ⟨Nat.le_of_ble_eq_true rfl, Nat.le_of_ble_eq_true rfl⟩ hP hD hS (k_ensure (S := 700) h0 h1 hfit hm9 (by omega) (by by_cases hh : t.length + (kCh k).length ≤ m; exact Or.inl hh; exact Or.inr (Nat.le_trans (kcap_le (by omega)).1 (by omega)))) (fun v ws1 H locs hv hP hD hS => ?_)
  obtain ⟨rfl, hp⟩ := hv
  obtain ⟨q2, a2, m2, f2, hS2, hr2, hF2, hq2⟩ := k_ens (r := t.length + (kCh k).length) hSb (by omega) (by omega) hp
  obtain ⟨h0, h1, hfit2, hlm2, hm92, hfx2⟩ := id hS2
  refine lv_aload_n hx hb (show decode cJ5_append_cf1ce 24 = .ok (.aload_n 0, 1) by decide +kernel) rfl (lv_at hl 1 rfl) ?_
  refine lv_aload_n hx hb (show decode cJ5_append_cf1ce 25 = .ok (.aload_n 0, 1) by decide +kernel) rfl (lv_at hl 1 rfl) ?_
  refine va_get (D := gD E) (ci := 11) (C := RJ4) (T := TJ4) (N := 4) hx hb hts kgb hown hK hP q0 h0 rfl 3 (by decide) (hts _ kw_30) (fun _ h9 => h9) rfl (show decode cJ5_append_cf1ce 26 = .ok (.getfield 79, 3) by decide +kernel) ?_
  refine lv_aload_n hx hb (show decode cJ5_append_cf1ce 29 = .ok (.aload_n 1, 1) by decide +kernel) rfl (lv_at hl 2 rfl) ?_
  refine k_callU (C := RJ4) (As := [.int (gi (t.length : Int)), .ref (K.1 k)]) (rest := []) ⟨hx, hb, hml, hown, htk, hF⟩ (show decode cJ5_append_cf1ce 30 = .ok (.invokevirtual 208, 3) by decide +kernel) ⟨kw_81, kw_82, kw_83, kw_24, kw_84⟩ kSel_2 (np := 2) (by decide +kernel) rfl ⟨Nat.le_of_ble_eq_true rfl, Nat.le_of_ble_eq_true rfl⟩ ⟨rfl, rfl⟩ (va_recv hK hP (ci := 11) rfl h0) hl.1 (Nat.le_of_ble_eq_true rfl) ⟨Nat.le_of_ble_eq_true rfl, Nat.le_of_ble_eq_true rfl⟩ hP hD hS (k_putStr hk h0 h1 hr2 hm92) (fun v ws9 H locs hv hP hD hS => ?_)
  obtain ⟨rfl, e9⟩ := hv
  rw [e9] at hP hD
  clear e9
  have h0' : (ws1.set q2 (a2, (.inl (gca E 3, m2, .inl (va_cpy (fun j => (kTb.getD k []).getD j 0) f2 0 t.length (kCh k).length)) : va_E)))[q0]? = some (q, kB a2 z t.length) := by rw [List.getElem?_set_ne (Ne.symm hS2.ne)]; exact h0
  refine lv_aload_n hx hb (show decode cJ5_append_cf1ce 33 = .ok (.aload_n 0, 1) by decide +kernel) rfl (lv_at hl 1 rfl) ?_
  refine lv_dup hx hb (show decode cJ5_append_cf1ce 34 = .ok (.dup, 1) by decide +kernel) rfl ?_
  refine va_get (D := gD E) (ci := 11) (C := RJ4) (T := TJ4) (N := 4) hx hb hts kgb hown hK hP q0 h0' rfl 3 (by decide) (hts _ kw_30) (fun _ h9 => h9) rfl (show decode cJ5_append_cf1ce 35 = .ok (.getfield 79, 3) by decide +kernel) ?_
  refine lv_iload_n hx hb (show decode cJ5_append_cf1ce 38 = .ok (.iload_n 2, 1) by decide +kernel) rfl (lv_at hl 0 rfl) ?_
  refine lv_iadd hx hb (show decode cJ5_append_cf1ce 39 = .ok (.iadd, 1) by decide +kernel) ?_
  rw [e1]
  refine va_put (D := gD E) (ci := 11) (v := .int (gi ((t.length + (kCh k).length : Nat) : Int))) (ty := .int) (C := RJ4) (T := TJ4) (N := 4) hx hb hts kgb ktyJ4 ktyJ4_ok (by decide +kernel) hown hK hP hD hS q0 h0' rfl 3 (by decide) (hts _ kw_30) (fun _ h9 => h9) rfl (by decide +kernel) rfl rfl (Nat.le_of_ble_eq_true rfl) (show decode cJ5_append_cf1ce 40 = .ok (.putfield 79, 3) by decide +kernel) (fun H locs hP hD hS => ?_)
  refine lv_aload_n hx hb (show decode cJ5_append_cf1ce 43 = .ok (.aload_n 0, 1) by decide +kernel) rfl (lv_at hl 1 rfl) ?_
  have hS3 := hS2.new (u := t ++ kCh k) (g := va_cpy (fun j => (kTb.getD k []).getD j 0) f2 0 t.length (kCh k).length) (by rw [List.length_append]; exact hr2) (kcpy_fit (fun i hi => (w3 i hi).2) hfit2) (fun i hi => by
    rw [List.length_append] at hi
    by_cases e : i < t.length
    · rw [pk_cpy_out (Or.inl e), getD_app1 e]
      exact hfx2 i e
    · rw [pk_cpy_in (by omega) (by omega), getD_app2 (by omega), Nat.zero_add]
      exact (w3 _ (by omega)).1)
  rw [List.length_append] at hS3
  exact k_aret hx hb hr (Or.inl ⟨_, rfl⟩) hlk (by decide +kernel) hP hD hS ⟨rfl, q2, a2, m2, _, hS3, hF2.put2 hq2, hq2⟩

/-- StringBuilder.append(String) -/
theorem k_sbS {E : gEn} {K : kEn} {ws : va_W} {q0 q1 q a m k : Nat} {z : Int32} {t : List Int} {f : Nat → Int32} (hSb : Sb E ws q0 q1 q z t a m f) (ht : t.length ≤ 340) (hk : k < 5) : kM E K yJ4_append_15ec4 cJ4_append_15ec4 2 (some (.object "java/lang/StringBuilder")) { frames := 5, cells := 1, slots := 700, locals := 170 } [.ref q, .ref (K.1 k)] ws (fun v ws1 => v = some (.ref q) ∧ ∃ q2 a2 m2 f2, Sb E ws1 q0 q2 q z (t ++ kCh k) a2 m2 f2 ∧ kFr ws ws1 q0 q1 ∧ (q2 = q1 ∨ ws.length ≤ q2)) 1 700 := by
  refine kM_of (by decide) (Nat.le_of_ble_eq_true rfl) ?_
  intro p e s mI args below meth cc hC H locs LS hP hD hS hA hl
  obtain ⟨hx, hb, hr, hml, hown, htk, hlk, hF, hnm⟩ := hC
  have hts : ∀ w ∈ gBig, w.before args s = true := fun w h => htk w (kBig_g h)
  have hE := hF.1
  have hK := hE.1
  have hl : lv_has LS 2 [(0, .ref q), (1, .ref (K.1 k))] := hl
  refine lv_aload_n hx hb (show decode cJ4_append_15ec4 0 = .ok (.aload_n 0, 1) by decide +kernel) rfl (lv_at hl 0 rfl) ?_
  refine lv_aload_n hx hb (show decode cJ4_append_15ec4 1 = .ok (.aload_n 1, 1) by decide +kernel) rfl (lv_at hl 1 rfl) ?_
  refine k_callX (qc := (RJ4, TJ4, 4)) (ci := 11) (As := [.ref (K.1 k)]) (rest := []) ⟨hx, hb, hml, hown, htk, hF⟩ (show decode cJ4_append_15ec4 2 = .ok (.invokespecial 29, 3) by decide +kernel) ⟨kw_85, kw_86, kw_46, kw_87, kw_24, kw_88⟩ (np := 1) (by decide +kernel) rfl ⟨Nat.le_of_ble_eq_true rfl, Nat.le_of_ble_eq_true rfl⟩ ⟨rfl, rfl⟩ rfl hSb.1 hl.1 (Nat.le_of_ble_eq_true rfl) ⟨Nat.le_of_ble_eq_true rfl, Nat.le_of_ble_eq_true rfl⟩ hP hD hS (k_appS hSb ht hk) (fun v ws1 H locs hv hP hD hS => ?_)
  obtain ⟨rfl, q2, a2, m2, f2, hS2, hF2, hq2⟩ := hv
  refine lv_pop hx hb (show decode cJ4_append_15ec4 5 = .ok (.pop, 1) by decide +kernel) rfl ?_
  refine lv_aload_n hx hb (show decode cJ4_append_15ec4 6 = .ok (.aload_n 0, 1) by decide +kernel) rfl (lv_at hl 0 rfl) ?_
  exact k_aret hx hb hr (Or.inl ⟨_, rfl⟩) hlk (by decide +kernel) hP hD hS ⟨rfl, q2, a2, m2, f2, hS2, hF2, hq2⟩
