/-! ===== copyOfRangeByte (by wip/p61/p99k.py) ===== -/
theorem kw_115 : (Cond.methodLink "java/util/Arrays" 343 yJ7_checkLength_df160) ∈ gBig := gBig_of (gpc6 (List.mem_of_getElem? (i := 171) rfl)) rfl
theorem kw_116 : (Cond.static yJ7_checkLength_df160) ∈ gBig := gBig_of (gpc6 (List.mem_of_getElem? (i := 172) rfl)) rfl
theorem kw_117 : (Cond.code yJ7_checkLength_df160 cJ7_checkLength_df160 2 none) ∈ gBig := gBig_of (gpc6 (List.mem_of_getElem? (i := 173) rfl)) rfl
theorem kwc_118 : (Cond.methodLink "java/util/Arrays" 310 ⟨"[B", "clone", "()Ljava/lang/Object;"⟩) ∈ gBig := gBig_of (gpc2 (List.mem_of_getElem? (i := 161) rfl)) rfl
theorem kwc_119 : (Cond.sameMethod "[B" "java/lang/Object" "clone" "()Ljava/lang/Object;") ∈ gBig := gBig_of (gpc2 (List.mem_of_getElem? (i := 162) rfl)) rfl
theorem kwc_120 : (Cond.native ⟨"java/lang/Object", "clone", "()Ljava/lang/Object;"⟩) ∈ gBig := gBig_of (gpc2 (List.mem_of_getElem? (i := 163) rfl)) rfl
theorem kwc_121 : (Cond.instanceMethod ⟨"java/lang/Object", "clone", "()Ljava/lang/Object;"⟩) ∈ gBig := gBig_of (gpc2 (List.mem_of_getElem? (i := 164) rfl)) rfl
theorem kwc_122 : (Cond.selects "[B" ⟨"[B", "clone", "()Ljava/lang/Object;"⟩ ⟨"java/lang/Object", "clone", "()Ljava/lang/Object;"⟩) ∈ gBig := gBig_of (gpc2 (List.mem_of_getElem? (i := 165) rfl)) rfl
theorem kw_123 : (Cond.classLink "java/util/Arrays" 311 "[B") ∈ gBig := gBig_of (gpc2 (List.mem_of_getElem? (i := 167) rfl)) rfl
theorem kw_124 : (Cond.methodLink "java/util/Arrays" 339 yJ7_copyOfRangeByte_39247) ∈ gBig := gBig_of (gpc6 (List.mem_of_getElem? (i := 168) rfl)) rfl
theorem kw_125 : (Cond.static yJ7_copyOfRangeByte_39247) ∈ gBig := gBig_of (gpc6 (List.mem_of_getElem? (i := 169) rfl)) rfl
theorem kw_126 : (Cond.code yJ7_copyOfRangeByte_39247 cJ7_copyOfRangeByte_39247 5 (some (.array .byte))) ∈ gBig := gBig_of (gpc6 (List.mem_of_getElem? (i := 170) rfl)) rfl
/-- Arrays.copyOfRangeByte from the first byte on -/
theorem k_copyRB {E : gEn} {K : kEn} {ws : va_W} {q1 a m9 n : Nat} {f : Nat → Int32} (h1 : ws[q1]? = some (a, .inl (gca E 3, m9, .inl f))) (hfit : ∀ i, fits .byte (.int (f i)) = true) (hmn : n ≤ m9) (hm9 : m9 ≤ 30000) : kM E K yJ7_copyOfRangeByte_39247 cJ7_copyOfRangeByte_39247 5 (some (.array .byte)) { frames := 2, cells := 1, slots := n, locals := 60 } [.ref a, .int 0, .int (gi (n : Int))] ws (fun v ws1 => ∃ a2, v = some (.ref a2) ∧ ws1 = ws ++ [(a2, .inl (gca E 3, n, .inl (va_cpy f (fun _ => 0) 0 0 n)))]) 1 n := by
  refine kM_of (by decide) (Nat.le_of_ble_eq_true rfl) ?_
  intro p e s mI args below meth cc hC H locs LS hP hD hS hA hl
  obtain ⟨hx, hb, hr, hml, hown, htk, hlk, hF, hnm⟩ := hC
  have hts : ∀ w ∈ gBig, w.before args s = true := fun w h => htk w (kBig_g h)
  have hE := hF.1
  have hK := hE.1
  have hl : lv_has LS 5 [(0, .ref a), (1, .int 0), (2, .int (gi (n : Int)))] := hl
  have hlt : q1 < ws.length := (List.getElem?_eq_some_iff.mp h1).1
  have s0 : ∀ x : Int, gi x - 0 = gi x := fun x => by rw [show (0 : Int32) = gi 0 from rfl, gi_sub, Int.sub_zero]
  refine lv_iload_n hx hb (show decode cJ7_copyOfRangeByte_39247 0 = .ok (.iload_n 1, 1) by decide +kernel) rfl (lv_at hl 1 rfl) ?_
  refine lv_iload_n hx hb (show decode cJ7_copyOfRangeByte_39247 1 = .ok (.iload_n 2, 1) by decide +kernel) rfl (lv_at hl 2 rfl) ?_
  refine k_callS (As := [.int 0, .int (gi (n : Int))]) (rest := []) ⟨hx, hb, hml, hown, htk, hF⟩ (show decode cJ7_copyOfRangeByte_39247 2 = .ok (.invokestatic 343, 3) by decide +kernel) ⟨kw_115, kw_116, kw_28, kw_117⟩ (np := 2) (by decide +kernel) rfl ⟨Nat.le_of_ble_eq_true rfl, Nat.le_of_ble_eq_true rfl⟩ ⟨rfl, rfl⟩ hl.1 (Nat.le_of_ble_eq_true rfl) ⟨Nat.le_of_ble_eq_true rfl, Nat.zero_le _⟩ hP hD hS (k_checkLength (x := 0) (y := n) (by decide) (by omega) (by omega)) (fun v ws9 H locs hv hP hD hS => ?_)
  obtain ⟨rfl, e9⟩ := hv
  rw [e9] at hP hD
  clear e9
  refine lv_iload_n hx hb (show decode cJ7_copyOfRangeByte_39247 5 = .ok (.iload_n 2, 1) by decide +kernel) rfl (lv_at hl 2 rfl) ?_
  refine lv_iload_n hx hb (show decode cJ7_copyOfRangeByte_39247 6 = .ok (.iload_n 1, 1) by decide +kernel) rfl (lv_at hl 1 rfl) ?_
  refine lv_isub hx hb (show decode cJ7_copyOfRangeByte_39247 7 = .ok (.isub, 1) by decide +kernel) ?_
  rw [s0]
  refine lv_istore_n hx hb (show decode cJ7_copyOfRangeByte_39247 8 = .ok (.istore_n 3, 1) by decide +kernel) rfl hl (by decide) rfl (fun LS hl => ?_)
  have hl : lv_has LS 5 [(3, .int (gi (n : Int))), (0, .ref a), (1, .int 0), (2, .int (gi (n : Int)))] := hl
  refine lv_iload_n hx hb (show decode cJ7_copyOfRangeByte_39247 9 = .ok (.iload_n 3, 1) by decide +kernel) rfl (lv_at hl 0 rfl) ?_
  refine va_newa (atype := .byte) (ty := .byte) (a0 := (n, .inl (fun _ => 0))) (N' := n) hx hb (hts _ kw_5) rfl hK hP hD hS hA (fun _ => rfl) (by rw [show (gi (n : Int) < 0) = (gi (n : Int) < gi 0) from rfl, gi_lt (by omega) (by omega) (by omega) (by omega)]; omega) (by rw [gi_c (by omega) (by omega)]; exact Int.toNat_natCast n) (by show n * 1 ≤ _; omega) (Nat.le_of_ble_eq_true rfl) (by show 0 + 0 + n ≤ n; omega) (show decode cJ7_copyOfRangeByte_39247 10 = .ok (.newarray .byte, 2) by decide +kernel) (fun a2 cA H hK2 hP hD hS => ?_)
  have hcA : cA = gca E 3 := gca_eq hK2 3 rfl rfl
  subst hcA
  clear hK2
  refine lv_astore hx hb (show decode cJ7_copyOfRangeByte_39247 12 = .ok (.astore 4, 2) by decide +kernel) hl (by decide) rfl (fun LS hl => ?_)
  have hl : lv_has LS 5 [(4, .ref a2), (3, .int (gi (n : Int))), (0, .ref a), (1, .int 0), (2, .int (gi (n : Int)))] := hl
  have h1' : (ws ++ [(a2, (.inl (gca E 3, n, .inl (fun _ => 0)) : va_E))])[q1]? = some (a, .inl (gca E 3, m9, .inl f)) := by rw [List.getElem?_append_left hlt]; exact h1
  have h2' : (ws ++ [(a2, (.inl (gca E 3, n, .inl (fun _ => 0)) : va_E))])[ws.length]? = some (a2, (.inl (gca E 3, n, .inl (fun _ => 0)) : va_E)) := by rw [List.getElem?_append_right (Nat.le_refl _), Nat.sub_self]; rfl
  refine lv_aload_n hx hb (show decode cJ7_copyOfRangeByte_39247 14 = .ok (.aload_n 0, 1) by decide +kernel) rfl (lv_at hl 2 rfl) ?_
  refine lv_iload_n hx hb (show decode cJ7_copyOfRangeByte_39247 15 = .ok (.iload_n 1, 1) by decide +kernel) rfl (lv_at hl 3 rfl) ?_
  refine lv_aload hx hb (show decode cJ7_copyOfRangeByte_39247 16 = .ok (.aload 4, 2) by decide +kernel) (lv_at hl 0 rfl) ?_
  refine lv_iconst (v := 0) hx hb (show decode cJ7_copyOfRangeByte_39247 18 = .ok (.iconst 0, 1) by decide +kernel) (by decide) ?_
  refine lv_aload_n hx hb (show decode cJ7_copyOfRangeByte_39247 19 = .ok (.aload_n 0, 1) by decide +kernel) rfl (lv_at hl 2 rfl) ?_
  refine va_alen hx hb hK hP q1 3 h1' rfl (gt_nat m9) (show decode cJ7_copyOfRangeByte_39247 20 = .ok (.arraylength, 1) by decide +kernel) ?_
  refine lv_iload_n hx hb (show decode cJ7_copyOfRangeByte_39247 21 = .ok (.iload_n 1, 1) by decide +kernel) rfl (lv_at hl 3 rfl) ?_
  refine lv_isub hx hb (show decode cJ7_copyOfRangeByte_39247 22 = .ok (.isub, 1) by decide +kernel) ?_
  rw [s0]
  refine lv_iload_n hx hb (show decode cJ7_copyOfRangeByte_39247 23 = .ok (.iload_n 3, 1) by decide +kernel) rfl (lv_at hl 1 rfl) ?_
  refine va_mmin hx hb (hml.trans hl.1.symm) hown (hts _ kw_6) (hts _ kw_7) (hts _ kw_2) (hts _ kw_8) (Nat.le_of_ble_eq_true rfl) (Nat.le_of_ble_eq_true rfl) (Nat.le_of_ble_eq_true rfl) (by show 0 + 0 + n ≤ n; omega) (show decode cJ7_copyOfRangeByte_39247 24 = .ok (.invokestatic 304, 3) by decide +kernel) ?_
  have emn : (if gi (n : Int) < gi (m9 : Int) then gi (n : Int) else gi (m9 : Int)) = gi (n : Int) := by
    by_cases h9 : (n : Int) < m9
    · rw [if_pos (by rw [gi_lt (by omega) (by omega) (by omega) (by omega)]; exact h9)]
    · rw [if_neg (by rw [gi_lt (by omega) (by omega) (by omega) (by omega)]; exact h9), show m9 = n by omega]
  rw [emn]
  have em : (gi (n : Int)).toNatClampNeg = n := by rw [gi_c (by omega) (by omega)]; exact Int.toNat_natCast n
  have e0 : (0 : Int32).toNatClampNeg = 0 := by decide
  refine va_copyi (ty := .byte) hx hb (hml.trans hl.1.symm) hown (hts _ kw_9) (hts _ kw_10) (hts _ kw_11) (hts _ kw_12) hK hP hD hS q1 ws.length 3 3 h1' h2' rfl rfl rfl (by decide) (by decide) (by rw [show (gi (n : Int) < 0) = (gi (n : Int) < gi 0) from rfl, gi_lt (by omega) (by omega) (by omega) (by omega)]; omega) (by rw [e0, em]; omega) (by rw [e0, em]; omega) (fun i _ => hfit _) (Nat.le_of_ble_eq_true rfl) (Nat.le_of_ble_eq_true rfl) (show decode cJ7_copyOfRangeByte_39247 27 = .ok (.invokestatic 150, 3) by decide +kernel) (fun H locs hP hD hS => ?_)
  rw [e0, em, List.set_append_right _ _ (Nat.le_refl _), Nat.sub_self] at hP hD
  refine lv_aload hx hb (show decode cJ7_copyOfRangeByte_39247 30 = .ok (.aload 4, 2) by decide +kernel) (lv_at hl 0 rfl) ?_
  refine W.widen (k := 1) (n := n) (Nat.le_of_ble_eq_true rfl) (by show 0 + 0 + n ≤ n; omega) ?_
  exact k_aret hx hb hr (Or.inr ⟨_, rfl⟩) hlk (by decide +kernel) hP hD hS ⟨a2, rfl, rfl⟩

/-- Arrays.copyOfRange from the first byte on -/
theorem k_copyR {E : gEn} {K : kEn} {ws : va_W} {q1 a m9 n : Nat} {f : Nat → Int32} (h1 : ws[q1]? = some (a, .inl (gca E 3, m9, .inl f))) (hfit : ∀ i, fits .byte (.int (f i)) = true) (hmn : n ≤ m9) (hm9 : m9 ≤ 30000) : kM E K yJ7_copyOfRange_39247 cJ7_copyOfRange_39247 3 (some (.array .byte)) { frames := 3, cells := 1, slots := n, locals := 90 } [.ref a, .int 0, .int (gi (n : Int))] ws (fun v ws1 => ∃ a2 f2, v = some (.ref a2) ∧ ws1 = ws ++ [(a2, (.inl (gca E 3, n, .inl f2) : va_E))] ∧ ∀ i, i < n → f2 i = f i) 1 n := by
  refine kM_of (by decide) (Nat.le_of_ble_eq_true rfl) ?_
  intro p e s mI args below meth cc hC H locs LS hP hD hS hA hl
  obtain ⟨hx, hb, hr, hml, hown, htk, hlk, hF, hnm⟩ := hC
  have hts : ∀ w ∈ gBig, w.before args s = true := fun w h => htk w (kBig_g h)
  have hE := hF.1
  have hK := hE.1
  have hl : lv_has LS 3 [(0, .ref a), (1, .int 0), (2, .int (gi (n : Int)))] := hl
  refine lv_iload_n hx hb (show decode cJ7_copyOfRange_39247 0 = .ok (.iload_n 1, 1) by decide +kernel) rfl (lv_at hl 1 rfl) ?_
  refine lv_if_ne hx hb (show decode cJ7_copyOfRange_39247 1 = .ok (.ifCond .ne 9, 3) by decide +kernel) (tgt := 10) rfl (fun z => absurd rfl z) (fun _ => ?_)
  refine lv_iload_n hx hb (show decode cJ7_copyOfRange_39247 4 = .ok (.iload_n 2, 1) by decide +kernel) rfl (lv_at hl 2 rfl) ?_
  refine lv_aload_n hx hb (show decode cJ7_copyOfRange_39247 5 = .ok (.aload_n 0, 1) by decide +kernel) rfl (lv_at hl 0 rfl) ?_
  refine va_alen hx hb hK hP q1 3 h1 rfl (gt_nat m9) (show decode cJ7_copyOfRange_39247 6 = .ok (.arraylength, 1) by decide +kernel) ?_
  refine lv_icmp_eq hx hb (show decode cJ7_copyOfRange_39247 7 = .ok (.if_icmp .eq 10, 3) by decide +kernel) (tgt := 17) rfl (fun h9 => ?_) (fun h9 => ?_)
  · rw [gi_eq (by omega) (by omega) (by omega) (by omega)] at h9
    have en : m9 = n := by omega
    subst en
    refine lv_aload_n hx hb (show decode cJ7_copyOfRange_39247 17 = .ok (.aload_n 0, 1) by decide +kernel) rfl (lv_at hl 0 rfl) ?_
    refine va_clone (ad := "[B") hx hb (hml.trans hl.1.symm) hown (hts _ kwc_118) (hts _ kwc_119) (hts _ kwc_120) (hts _ kwc_121) (hts _ kwc_122) hF.2.2.1.2 hK hP hD hS hA q1 3 h1 rfl ((hK.2 3 (gca E 3, .byte) rfl).2 : s.vm.findClass "[B" = some (gca E 3)) (fun i v hv => ?_) (Nat.le_of_ble_eq_true rfl) (Nat.le_of_ble_eq_true rfl) (Nat.le_of_ble_eq_true rfl) (by show 0 + m9 ≤ m9; omega) (show decode cJ7_copyOfRange_39247 18 = .ok (.invokevirtual 310, 3) by decide +kernel) (fun a2 H hK2 hP hD hS => ?_)
    · by_cases hi : i < m9
      · rw [show (vp_cell (gca E 3) (m9, .inl f)).slots[i]? = some (.int (f i)) from arrV_read _ (fun j => .int (f j)) hi] at hv
        cases hv
        exact hfit i
      · rw [Array.getElem?_eq_none (by rw [show (vp_cell (gca E 3) (m9, .inl f)).slots.size = m9 from arrV_size _ _ _]; omega)] at hv
        cases hv
    · have h2 : (ws ++ [(a2, (.inl (gca E 3, m9, .inl f) : va_E))])[ws.length]? = some (a2, .inl (gca E 3, m9, .inl f)) := by rw [List.getElem?_append_right (Nat.le_refl _), Nat.sub_self]; rfl
      refine va_castA hx hb hown (hts _ kw_123) hP ws.length h2 ((hK.2 3 (gca E 3, .byte) rfl).2 : s.vm.findClass "[B" = some (gca E 3)) (show decode cJ7_copyOfRange_39247 21 = .ok (.checkcast 311, 3) by decide +kernel) ?_
      refine W.widen (k := 1) (n := m9) (Nat.le_of_ble_eq_true rfl) (by show 0 + m9 ≤ m9; omega) ?_
      exact k_aret hx hb hr (Or.inr ⟨_, rfl⟩) hlk (by decide +kernel) hP hD hS ⟨a2, f, rfl, rfl, fun _ _ => rfl⟩
  · refine lv_aload_n hx hb (show decode cJ7_copyOfRange_39247 10 = .ok (.aload_n 0, 1) by decide +kernel) rfl (lv_at hl 0 rfl) ?_
    refine lv_iload_n hx hb (show decode cJ7_copyOfRange_39247 11 = .ok (.iload_n 1, 1) by decide +kernel) rfl (lv_at hl 1 rfl) ?_
    refine lv_iload_n hx hb (show decode cJ7_copyOfRange_39247 12 = .ok (.iload_n 2, 1) by decide +kernel) rfl (lv_at hl 2 rfl) ?_
    refine k_callS (As := [.ref a, .int 0, .int (gi (n : Int))]) (rest := []) ⟨hx, hb, hml, hown, htk, hF⟩ (show decode cJ7_copyOfRange_39247 13 = .ok (.invokestatic 339, 3) by decide +kernel) ⟨kw_124, kw_125, kw_28, kw_126⟩ (np := 3) (by decide +kernel) rfl ⟨Nat.le_of_ble_eq_true rfl, Nat.le_of_ble_eq_true rfl⟩ ⟨rfl, rfl⟩ hl.1 (Nat.le_of_ble_eq_true rfl) ⟨Nat.le_of_ble_eq_true rfl, by show 0 + n ≤ n; omega⟩ hP hD hS (k_copyRB h1 hfit hmn hm9) (fun v ws9 H locs hv hP hD hS => ?_)
    obtain ⟨a2, rfl, e9⟩ := hv
    refine W.widen (k := 1) (n := n) (Nat.le_of_ble_eq_true rfl) (by show 0 + n ≤ n; omega) ?_
    exact k_aret hx hb hr (Or.inr ⟨_, rfl⟩) hlk (by decide +kernel) hP hD hS ⟨a2, _, rfl, e9, fun i hi => by rw [pk_cpy_in (Nat.zero_le _) (by omega), show 0 + (i - 0) = i by omega]⟩
