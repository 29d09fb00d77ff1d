/-! ===== StringBuilder by kit rows (by wip/p61/p99c.py) ===== -/
theorem kw_0 : (Cond.methodLink "jdk/internal/util/ArraysSupport" 194 Lib.Math.max.name) ∈ gBig := gBig_of (gpc2 (List.mem_of_getElem? (i := 151) rfl)) rfl
theorem kw_1 : (Cond.static Lib.Math.max.name) ∈ gBig := gBig_of (gpc2 (List.mem_of_getElem? (i := 152) rfl)) rfl
theorem kw_2 : (Cond.initialized "java/lang/Math") ∈ gBig := gBig_of (gpc1 (List.mem_of_getElem? (i := 8) rfl)) rfl
theorem kw_3 : (Cond.code Lib.Math.max.name Lib.Math.max.code 2 (some .int)) ∈ gBig := gBig_of (gpc2 (List.mem_of_getElem? (i := 153) rfl)) rfl
theorem kw_4 : (Cond.constant "jdk/internal/util/ArraysSupport" 200 2147483639) ∈ gBig := gBig_of (gpc2 (List.mem_of_getElem? (i := 154) rfl)) rfl
theorem kw_5 : (Cond.arrayClass .byte) ∈ gBig := gBig_of (gpc1 (List.mem_of_getElem? (i := 108) rfl)) rfl
theorem kw_6 : (Cond.methodLink "java/util/Arrays" 304 Lib.Math.min.name) ∈ gBig := gBig_of (gpc2 (List.mem_of_getElem? (i := 168) rfl)) rfl
theorem kw_7 : (Cond.static Lib.Math.min.name) ∈ gBig := gBig_of (gpc2 (List.mem_of_getElem? (i := 169) rfl)) rfl
theorem kw_8 : (Cond.code Lib.Math.min.name Lib.Math.min.code 2 (some .int)) ∈ gBig := gBig_of (gpc2 (List.mem_of_getElem? (i := 170) rfl)) rfl
theorem kw_9 : (Cond.methodLink "java/util/Arrays" 150 arraycopyName) ∈ gBig := gBig_of (gpc2 (List.mem_of_getElem? (i := 171) rfl)) rfl
theorem kw_10 : (Cond.native arraycopyName) ∈ gBig := gBig_of (gpc2 (List.mem_of_getElem? (i := 173) rfl)) rfl
theorem kw_11 : (Cond.static arraycopyName) ∈ gBig := gBig_of (gpc2 (List.mem_of_getElem? (i := 172) rfl)) rfl
theorem kw_12 : (Cond.initialized "java/lang/System") ∈ gBig := gBig_of (gpc1 (List.mem_of_getElem? (i := 10) rfl)) rfl
theorem kw_13 : (Cond.fieldLink "java/lang/AbstractStringBuilder" 18 "java/lang/String" "COMPACT_STRINGS" "Z") ∈ gBig := gBig_of (gpc2 (List.mem_of_getElem? (i := 179) rfl)) rfl
theorem kw_14 : (Cond.fieldLink "java/lang/AbstractStringBuilder" 22 "java/lang/AbstractStringBuilder" "coder" "B") ∈ gBig := gBig_of (gpc3 (List.mem_of_getElem? (i := 0) rfl)) rfl
theorem kw_15 : (Cond.fieldLink "java/lang/AbstractStringBuilder" 15 "java/lang/AbstractStringBuilder" "value" "[B") ∈ gBig := gBig_of (gpc2 (List.mem_of_getElem? (i := 239) rfl)) rfl
theorem kw_16 : (Cond.methodLink "java/lang/AbstractStringBuilder" 114 yJ8_newLength_cabcc) ∈ gBig := gBig_of (gpc2 (List.mem_of_getElem? (i := 148) rfl)) rfl
theorem kw_17 : (Cond.static yJ8_newLength_cabcc) ∈ gBig := gBig_of (gpc2 (List.mem_of_getElem? (i := 149) rfl)) rfl
theorem kw_18 : (Cond.initialized "jdk/internal/util/ArraysSupport") ∈ gBig := gBig_of (gpc1 (List.mem_of_getElem? (i := 7) rfl)) rfl
theorem kw_19 : (Cond.code yJ8_newLength_cabcc cJ8_newLength_cabcc 4 (some .int)) ∈ gBig := gBig_of (gpc2 (List.mem_of_getElem? (i := 150) rfl)) rfl
theorem kw_20 : (Cond.constant "java/lang/AbstractStringBuilder" 39 2147483647) ∈ gBig := gBig_of (gpc2 (List.mem_of_getElem? (i := 114) rfl)) rfl
theorem kw_21 : (Cond.methodLink "java/lang/AbstractStringBuilder" 104 yJ5_newCapacity_0f7a4) ∈ gBig := gBig_of (gpc2 (List.mem_of_getElem? (i := 144) rfl)) rfl
theorem kw_22 : (Cond.sameMethod "java/lang/AbstractStringBuilder" "java/lang/AbstractStringBuilder" "newCapacity" "(I)I") ∈ gBig := gBig_of (gpc6 (List.mem_of_getElem? (i := 210) rfl)) rfl
theorem kw_23 : (Cond.instanceMethod yJ5_newCapacity_0f7a4) ∈ gBig := gBig_of (gpc2 (List.mem_of_getElem? (i := 146) rfl)) rfl
theorem kw_24 : (Cond.initialized "java/lang/AbstractStringBuilder") ∈ gBig := gBig_of (gpc1 (List.mem_of_getElem? (i := 3) rfl)) rfl
theorem kw_25 : (Cond.code yJ5_newCapacity_0f7a4 cJ5_newCapacity_0f7a4 6 (some .int)) ∈ gBig := gBig_of (gpc2 (List.mem_of_getElem? (i := 147) rfl)) rfl
theorem kw_26 : (Cond.methodLink "java/lang/AbstractStringBuilder" 108 yJ7_copyOf_9075b) ∈ gBig := gBig_of (gpc2 (List.mem_of_getElem? (i := 158) rfl)) rfl
theorem kw_27 : (Cond.static yJ7_copyOf_9075b) ∈ gBig := gBig_of (gpc2 (List.mem_of_getElem? (i := 159) rfl)) rfl
theorem kw_28 : (Cond.initialized "java/util/Arrays") ∈ gBig := gBig_of (gpc1 (List.mem_of_getElem? (i := 9) rfl)) rfl
theorem kw_29 : (Cond.code yJ7_copyOf_9075b cJ7_copyOf_9075b 3 (some (.array .byte))) ∈ gBig := gBig_of (gpc2 (List.mem_of_getElem? (i := 160) rfl)) rfl
theorem kguw : ∀ w ∈ u_ws RJ4 TJ4 4, w ∈ lw_tbl := by decide +kernel
theorem kgug : ∀ w ∈ u_ws RJ4 TJ4 4, goodWord w = true := by decide +kernel
theorem kgb : ∀ w ∈ u_ws RJ4 TJ4 4, w ∈ gBig := fun w hw => gBig_of (kguw w hw) (kgug w hw)
def ktyJ4 : Nat → FieldType := fun k => match k with
  | 0 => .array .byte
  | 1 => .byte
  | 2 => .boolean
  | _ => .int
theorem ktyJ4_ok : ∀ k, k < 4 → parseFieldDescriptor (TJ4 k).2.2.1 = some (ktyJ4 k) := by decide +kernel
theorem ksh0 (x : Int32) : x <<< ((0 : Int32) &&& 31) = x := by
  rw [show ((0 : Int32) &&& 31) = 0 by decide]
  exact Int32.shiftLeft_zero
theorem ksr0 (x : Int32) : x >>> ((0 : Int32) &&& 31) = x := by
  rw [show ((0 : Int32) &&& 31) = 0 by decide]
  exact Int32.shiftRight_zero
/-- the builder's cell -/
abbrev kB (a : Nat) (z : Int32) (n : Nat) : va_E := .inr (11, [.ref a, .int 0, .int z, .int (gi (n : Int))])
/-- the next capacity -/
def kcap (q m : Nat) : Nat := m + max (q - m) (m + 2)

/-- ArraysSupport.newLength -/
theorem k_newLength {E : gEn} {K : kEn} {ws : va_W} {x y z : Int32} (h1 : 0 < x + (if y < z then z else y)) (h2 : x + (if y < z then z else y) ≤ 2147483639) : kM E K yJ8_newLength_cabcc cJ8_newLength_cabcc 4 (some .int) { frames := 1, cells := 0, slots := 0, locals := 40 } [.int x, .int y, .int z] ws (fun v ws1 => v = some (.int (x + (if y < z then z else y))) ∧ ws1 = ws) 0 0 := by
  refine kM_of (by decide) (Nat.le_of_ble_eq_true rfl) ?_
  intro p e s mI args below meth cc hC H locs LS hP hD hS hA hl
  obtain ⟨hx, hb, hr, hml, hown, htk, hlk, hF, hnm⟩ := hC
  have hts : ∀ w ∈ gBig, w.before args s = true := fun w h => htk w (kBig_g h)
  have hE := hF.1
  have hK := hE.1
  have hl : lv_has LS 4 [(0, .int x), (1, .int y), (2, .int z)] := hl
  refine lv_iload_n hx hb (show decode cJ8_newLength_cabcc 0 = .ok (.iload_n 0, 1) by decide +kernel) rfl (lv_at hl 0 rfl) ?_
  refine lv_iload_n hx hb (show decode cJ8_newLength_cabcc 1 = .ok (.iload_n 1, 1) by decide +kernel) rfl (lv_at hl 1 rfl) ?_
  refine lv_iload_n hx hb (show decode cJ8_newLength_cabcc 2 = .ok (.iload_n 2, 1) by decide +kernel) rfl (lv_at hl 2 rfl) ?_
  refine va_mmax hx hb (hml.trans hl.1.symm) hown (hts _ kw_0) (hts _ kw_1) (hts _ kw_2) (hts _ kw_3) (Nat.le_of_ble_eq_true rfl) (Nat.le_of_ble_eq_true rfl) (Nat.le_of_ble_eq_true rfl) (Nat.le_of_ble_eq_true rfl) (show decode cJ8_newLength_cabcc 3 = .ok (.invokestatic 194, 3) by decide +kernel) ?_
  refine lv_iadd hx hb (show decode cJ8_newLength_cabcc 6 = .ok (.iadd, 1) by decide +kernel) ?_
  refine lv_istore_n hx hb (show decode cJ8_newLength_cabcc 7 = .ok (.istore_n 3, 1) by decide +kernel) rfl hl (by decide) rfl (fun LS hl => ?_)
  have hl : lv_has LS 4 [(3, .int (x + (if y < z then z else y))), (0, .int x), (1, .int y), (2, .int z)] := hl
  generalize hr0 : x + (if y < z then z else y) = r at h1 h2 hl ⊢
  refine lv_iconst (v := 0) hx hb (show decode cJ8_newLength_cabcc 8 = .ok (.iconst 0, 1) by decide +kernel) (by decide) ?_
  refine lv_iload_n hx hb (show decode cJ8_newLength_cabcc 9 = .ok (.iload_n 3, 1) by decide +kernel) rfl (lv_at hl 0 rfl) ?_
  refine lv_icmp_ge hx hb (show decode cJ8_newLength_cabcc 10 = .ok (.if_icmp .ge 11, 3) by decide +kernel) (tgt := 21) rfl (fun h9 => absurd h1 (Int32.not_lt.mpr h9)) (fun _ => ?_)
  refine lv_iload_n hx hb (show decode cJ8_newLength_cabcc 13 = .ok (.iload_n 3, 1) by decide +kernel) rfl (lv_at hl 0 rfl) ?_
  refine lv_ldc (v := 2147483639) hx hb hown (hts _ kw_4) (show decode cJ8_newLength_cabcc 14 = .ok (.ldc 200, 2) by decide +kernel) ?_
  refine lv_icmp_gt hx hb (show decode cJ8_newLength_cabcc 16 = .ok (.if_icmp .gt 5, 3) by decide +kernel) (tgt := 21) rfl (fun h9 => absurd h2 (Int32.not_le.mpr h9)) (fun _ => ?_)
  refine lv_iload_n hx hb (show decode cJ8_newLength_cabcc 19 = .ok (.iload_n 3, 1) by decide +kernel) rfl (lv_at hl 0 rfl) ?_
  exact k_zret hx hb hr hlk rfl (by decide +kernel) hP hD hS ⟨rfl, rfl⟩

/-- Arrays.copyOf of bytes, to more -/
theorem k_copyOf {E : gEn} {K : kEn} {ws : va_W} {q1 a m n : Nat} {f : Nat → Int32} (h1 : ws[q1]? = some (a, .inl (gca E 3, m, .inl f))) (hfit : ∀ i, fits .byte (.int (f i)) = true) (hmn : m < n) (hn : n ≤ 65536) : kM E K yJ7_copyOf_9075b cJ7_copyOf_9075b 3 (some (.array .byte)) { frames := 2, cells := 1, slots := n, locals := 60 } [.ref a, .int (gi (n : Int))] ws (fun v ws1 => ∃ a2, v = some (.ref a2) ∧ ws1 = ws ++ [(a2, .inl (gca E 3, n, .inl (va_cpy f (fun _ => 0) 0 0 m)))]) 1 n := by
  refine kM_of (by decide) (Nat.le_of_ble_eq_true rfl) ?_
  intro p e s mI args below meth cc hC H locs LS hP hD hS hA hl
  obtain ⟨hx, hb, hr, hml, hown, htk, hlk, hF, hnm⟩ := hC
  have hts : ∀ w ∈ gBig, w.before args s = true := fun w h => htk w (kBig_g h)
  have hE := hF.1
  have hK := hE.1
  have hl : lv_has LS 3 [(0, .ref a), (1, .int (gi (n : Int)))] := hl
  refine lv_iload_n hx hb (show decode cJ7_copyOf_9075b 0 = .ok (.iload_n 1, 1) by decide +kernel) rfl (lv_at hl 1 rfl) ?_
  refine lv_aload_n hx hb (show decode cJ7_copyOf_9075b 1 = .ok (.aload_n 0, 1) by decide +kernel) rfl (lv_at hl 0 rfl) ?_
  refine va_alen hx hb hK hP q1 3 h1 rfl (gt_nat m) (show decode cJ7_copyOf_9075b 2 = .ok (.arraylength, 1) by decide +kernel) ?_
  refine lv_icmp_ne hx hb (show decode cJ7_copyOf_9075b 3 = .ok (.if_icmp .ne 11, 3) by decide +kernel) (tgt := 14) rfl (fun _ => ?_) (fun z => by rw [gi_eq (by omega) (by omega) (by omega) (by omega)] at z; omega)
  refine lv_iload_n hx hb (show decode cJ7_copyOf_9075b 14 = .ok (.iload_n 1, 1) by decide +kernel) rfl (lv_at hl 1 rfl) ?_
  refine va_newa (atype := .byte) (ty := .byte) (a0 := (n, .inl (fun _ => 0))) (N' := n) hx hb (hts _ kw_5) rfl hK hP hD hS hA (fun _ => rfl) (by rw [show (gi (n : Int) < 0) = (gi (n : Int) < gi 0) from rfl, gi_lt (by omega) (by omega) (by decide) (by decide)]; omega) (by rw [gi_c (by omega) (by omega)]; exact Int.toNat_natCast n) (by show n * 1 ≤ _; omega) (Nat.le_of_ble_eq_true rfl) (Nat.le_of_eq (Nat.zero_add n)) (show decode cJ7_copyOf_9075b 15 = .ok (.newarray .byte, 2) by decide +kernel) (fun a2 cA H hK2 hP hD hS => ?_)
  have hcA : cA = gca E 3 := gca_eq hK2 3 rfl rfl
  subst hcA
  clear hK2
  refine lv_astore_n hx hb (show decode cJ7_copyOf_9075b 17 = .ok (.astore_n 2, 1) by decide +kernel) rfl hl (by decide) rfl (fun LS hl => ?_)
  have hl : lv_has LS 3 [(2, .ref a2), (0, .ref a), (1, .int (gi (n : Int)))] := hl
  have hlt : q1 < ws.length := (List.getElem?_eq_some_iff.mp h1).1
  have h1' : (ws ++ [(a2, .inl (gca E 3, n, .inl (fun _ => 0)))])[q1]? = some (a, .inl (gca E 3, m, .inl f)) := by rw [List.getElem?_append_left hlt]; exact h1
  have h2' : (ws ++ [(a2, (.inl (gca E 3, n, .inl (fun _ => 0)) : va_E))])[ws.length]? = some (a2, .inl (gca E 3, n, .inl (fun _ => 0))) := by rw [List.getElem?_append_right (Nat.le_refl _), Nat.sub_self]; rfl
  refine lv_aload_n hx hb (show decode cJ7_copyOf_9075b 18 = .ok (.aload_n 0, 1) by decide +kernel) rfl (lv_at hl 1 rfl) ?_
  refine lv_iconst (v := 0) hx hb (show decode cJ7_copyOf_9075b 19 = .ok (.iconst 0, 1) by decide +kernel) (by decide) ?_
  refine lv_aload_n hx hb (show decode cJ7_copyOf_9075b 20 = .ok (.aload_n 2, 1) by decide +kernel) rfl (lv_at hl 0 rfl) ?_
  refine lv_iconst (v := 0) hx hb (show decode cJ7_copyOf_9075b 21 = .ok (.iconst 0, 1) by decide +kernel) (by decide) ?_
  refine lv_aload_n hx hb (show decode cJ7_copyOf_9075b 22 = .ok (.aload_n 0, 1) by decide +kernel) rfl (lv_at hl 1 rfl) ?_
  refine va_alen hx hb hK hP q1 3 h1' rfl (gt_nat m) (show decode cJ7_copyOf_9075b 23 = .ok (.arraylength, 1) by decide +kernel) ?_
  refine lv_iload_n hx hb (show decode cJ7_copyOf_9075b 24 = .ok (.iload_n 1, 1) by decide +kernel) rfl (lv_at hl 2 rfl) ?_
  refine va_mmin hx hb (hml.trans hl.1.symm) hown (hts _ kw_6) (hts _ kw_7) (hts _ kw_2) (hts _ kw_8) (Nat.le_of_ble_eq_true rfl) (Nat.le_of_ble_eq_true rfl) (Nat.le_of_ble_eq_true rfl) (Nat.le_of_eq (Nat.zero_add n)) (show decode cJ7_copyOf_9075b 25 = .ok (.invokestatic 304, 3) by decide +kernel) ?_
  rw [if_neg (by rw [gi_lt (by omega) (by omega) (by omega) (by omega)]; omega)]
  have em : (gi (m : Int)).toNatClampNeg = m := by rw [gi_c (by omega) (by omega)]; exact Int.toNat_natCast m
  have e0 : (0 : Int32).toNatClampNeg = 0 := by decide
  refine va_copyi (ty := .byte) hx hb (hml.trans hl.1.symm) hown (hts _ kw_9) (hts _ kw_10) (hts _ kw_11) (hts _ kw_12) hK hP hD hS q1 ws.length 3 3 h1' h2' rfl rfl rfl (by decide) (by decide) (by rw [show (gi (m : Int) < 0) = (gi (m : Int) < gi 0) from rfl, gi_lt (by omega) (by omega) (by decide) (by decide)]; omega) (by rw [e0, em]; omega) (by rw [e0, em]; omega) (fun i _ => hfit _) (Nat.le_of_ble_eq_true rfl) (Nat.le_of_ble_eq_true rfl) (show decode cJ7_copyOf_9075b 28 = .ok (.invokestatic 150, 3) by decide +kernel) (fun H locs hP hD hS => ?_)
  rw [e0, em, List.set_append_right _ _ (Nat.le_refl _), Nat.sub_self] at hP hD
  refine lv_aload_n hx hb (show decode cJ7_copyOf_9075b 31 = .ok (.aload_n 2, 1) by decide +kernel) rfl (lv_at hl 0 rfl) ?_
  refine W.widen (k := 1) (n := n) (Nat.le_of_ble_eq_true rfl) (Nat.le_of_eq (Nat.zero_add n)) ?_
  exact k_aret hx hb hr (Or.inr ⟨_, rfl⟩) hlk (by decide +kernel) hP hD hS ⟨a2, rfl, rfl⟩

/-- isLatin1 -/
theorem k_isLatin1 {E : gEn} {K : kEn} {ws : va_W} {q0 q a n : Nat} {z : Int32} (h0 : ws[q0]? = some (q, kB a z n)) : kM E K yJ5_isLatin1_aae02 cJ5_isLatin1_aae02 1 (some .boolean) { frames := 1, cells := 0, slots := 0, locals := 20 } [.ref q] ws (fun v ws1 => v = some (.int 1) ∧ ws1 = ws) 0 0 := by
  refine kM_of (by decide) (Nat.le_of_ble_eq_true rfl) ?_
  intro p e s mI args below meth cc hC H locs LS hP hD hS hA hl
  obtain ⟨hx, hb, hr, hml, hown, htk, hlk, hF, hnm⟩ := hC
  have hts : ∀ w ∈ gBig, w.before args s = true := fun w h => htk w (kBig_g h)
  have hE := hF.1
  have hK := hE.1
  have hl : lv_has LS 1 [(0, .ref q)] := hl
  obtain ⟨g1, g2, g3, g4, g5, g6, g5b, g6b, g7, g8, g10, g11, g12, g13, g14, g17, g15, g16⟩ := id hE
  refine va_gets hx hb g13 hS hown (hts _ kw_13) (fun _ h => h) (show decode cJ5_isLatin1_aae02 0 = .ok (.getstatic 18, 3) by decide +kernel) ?_
  refine lv_if_eq hx hb (show decode cJ5_isLatin1_aae02 3 = .ok (.ifCond .eq 14, 3) by decide +kernel) (tgt := 17) rfl (fun z => absurd z (by decide)) (fun _ => ?_)
  refine lv_aload_n hx hb (show decode cJ5_isLatin1_aae02 6 = .ok (.aload_n 0, 1) by decide +kernel) rfl (lv_at hl 0 rfl) ?_
  refine va_get (D := gD E) (ci := 11) (C := RJ4) (T := TJ4) (N := 4) hx hb hts kgb hown hK hP q0 h0 rfl 1 (by decide) (hts _ kw_14) (fun _ h9 => h9) rfl (show decode cJ5_isLatin1_aae02 7 = .ok (.getfield 22, 3) by decide +kernel) ?_
  refine lv_if_ne hx hb (show decode cJ5_isLatin1_aae02 10 = .ok (.ifCond .ne 7, 3) by decide +kernel) (tgt := 17) rfl (fun z => absurd rfl z) (fun _ => ?_)
  refine lv_iconst (v := 1) hx hb (show decode cJ5_isLatin1_aae02 13 = .ok (.iconst 1, 1) by decide +kernel) (by decide) ?_
  refine lv_goto hx hb (show decode cJ5_isLatin1_aae02 14 = .ok (.goto 4, 3) by decide +kernel) (tgt := 18) rfl ?_
  exact k_zret hx hb hr hlk (by decide) (by decide +kernel) hP hD hS ⟨rfl, rfl⟩

/-- newCapacity -/
theorem k_newCapacity {E : gEn} {K : kEn} {ws : va_W} {q0 q1 q a n m r : Nat} {z : Int32} {f : Nat → Int32} (h0 : ws[q0]? = some (q, kB a z n)) (h1 : ws[q1]? = some (a, .inl (gca E 3, m, .inl f))) (hm : m < r) (hr9 : r ≤ 30000) : kM E K yJ5_newCapacity_0f7a4 cJ5_newCapacity_0f7a4 6 (some .int) { frames := 2, cells := 0, slots := 0, locals := 70 } [.ref q, .int (gi (r : Int))] ws (fun v ws1 => v = some (.int (gi (kcap r m : Int))) ∧ ws1 = ws) 0 0 := by
  refine kM_of (by decide) (Nat.le_of_ble_eq_true rfl) ?_
  intro p e s mI args below meth cc hC H locs LS hP hD hS hA hl
  obtain ⟨hx, hb, hr, hml, hown, htk, hlk, hF, hnm⟩ := hC
  have hts : ∀ w ∈ gBig, w.before args s = true := fun w h => htk w (kBig_g h)
  have hE := hF.1
  have hK := hE.1
  have hl : lv_has LS 6 [(0, .ref q), (1, .int (gi (r : Int)))] := hl
  refine lv_aload_n hx hb (show decode cJ5_newCapacity_0f7a4 0 = .ok (.aload_n 0, 1) by decide +kernel) rfl (lv_at hl 0 rfl) ?_
  refine va_get (D := gD E) (ci := 11) (C := RJ4) (T := TJ4) (N := 4) hx hb hts kgb hown hK hP q0 h0 rfl 0 (by decide) (hts _ kw_15) (fun _ h9 => h9) rfl (show decode cJ5_newCapacity_0f7a4 1 = .ok (.getfield 15, 3) by decide +kernel) ?_
  refine va_alen hx hb hK hP q1 3 h1 rfl (gt_nat m) (show decode cJ5_newCapacity_0f7a4 4 = .ok (.arraylength, 1) by decide +kernel) ?_
  refine lv_istore_n hx hb (show decode cJ5_newCapacity_0f7a4 5 = .ok (.istore_n 2, 1) by decide +kernel) rfl hl (by decide) rfl (fun LS hl => ?_)
  have hl : lv_has LS 6 [(2, .int (gi (m : Int))), (0, .ref q), (1, .int (gi (r : Int)))] := hl
  refine lv_iload_n hx hb (show decode cJ5_newCapacity_0f7a4 6 = .ok (.iload_n 1, 1) by decide +kernel) rfl (lv_at hl 2 rfl) ?_
  refine lv_aload_n hx hb (show decode cJ5_newCapacity_0f7a4 7 = .ok (.aload_n 0, 1) by decide +kernel) rfl (lv_at hl 1 rfl) ?_
  refine va_get (D := gD E) (ci := 11) (C := RJ4) (T := TJ4) (N := 4) hx hb hts kgb hown hK hP q0 h0 rfl 1 (by decide) (hts _ kw_14) (fun _ h9 => h9) rfl (show decode cJ5_newCapacity_0f7a4 8 = .ok (.getfield 22, 3) by decide +kernel) ?_
  refine lv_ishl hx hb (show decode cJ5_newCapacity_0f7a4 11 = .ok (.ishl, 1) by decide +kernel) ?_
  rw [ksh0]
  refine lv_istore_n hx hb (show decode cJ5_newCapacity_0f7a4 12 = .ok (.istore_n 3, 1) by decide +kernel) rfl hl (by decide) rfl (fun LS hl => ?_)
  have hl : lv_has LS 6 [(3, .int (gi (r : Int))), (2, .int (gi (m : Int))), (0, .ref q), (1, .int (gi (r : Int)))] := hl
  refine lv_iload_n hx hb (show decode cJ5_newCapacity_0f7a4 13 = .ok (.iload_n 3, 1) by decide +kernel) rfl (lv_at hl 0 rfl) ?_
  refine lv_iload_n hx hb (show decode cJ5_newCapacity_0f7a4 14 = .ok (.iload_n 2, 1) by decide +kernel) rfl (lv_at hl 1 rfl) ?_
  refine lv_isub hx hb (show decode cJ5_newCapacity_0f7a4 15 = .ok (.isub, 1) by decide +kernel) ?_
  refine lv_istore hx hb (show decode cJ5_newCapacity_0f7a4 16 = .ok (.istore 4, 2) by decide +kernel) hl (by decide) rfl (fun LS hl => ?_)
  have hl : lv_has LS 6 [(4, .int (gi (r : Int) - gi (m : Int))), (3, .int (gi (r : Int))), (2, .int (gi (m : Int))), (0, .ref q), (1, .int (gi (r : Int)))] := hl
  refine lv_iload_n hx hb (show decode cJ5_newCapacity_0f7a4 18 = .ok (.iload_n 2, 1) by decide +kernel) rfl (lv_at hl 2 rfl) ?_
  refine lv_iload hx hb (show decode cJ5_newCapacity_0f7a4 19 = .ok (.iload 4, 2) by decide +kernel) (lv_at hl 0 rfl) ?_
  refine lv_iload_n hx hb (show decode cJ5_newCapacity_0f7a4 21 = .ok (.iload_n 2, 1) by decide +kernel) rfl (lv_at hl 2 rfl) ?_
  refine lv_iconst (v := 2) hx hb (show decode cJ5_newCapacity_0f7a4 22 = .ok (.iconst 2, 1) by decide +kernel) (by decide) ?_
  refine lv_aload_n hx hb (show decode cJ5_newCapacity_0f7a4 23 = .ok (.aload_n 0, 1) by decide +kernel) rfl (lv_at hl 3 rfl) ?_
  refine va_get (D := gD E) (ci := 11) (C := RJ4) (T := TJ4) (N := 4) hx hb hts kgb hown hK hP q0 h0 rfl 1 (by decide) (hts _ kw_14) (fun _ h9 => h9) rfl (show decode cJ5_newCapacity_0f7a4 24 = .ok (.getfield 22, 3) by decide +kernel) ?_
  refine lv_ishl hx hb (show decode cJ5_newCapacity_0f7a4 27 = .ok (.ishl, 1) by decide +kernel) ?_
  rw [ksh0]
  refine lv_iadd hx hb (show decode cJ5_newCapacity_0f7a4 28 = .ok (.iadd, 1) by decide +kernel) ?_
  have ex : (if gi (r : Int) - gi (m : Int) < gi (m : Int) + 2 then gi (m : Int) + 2 else gi (r : Int) - gi (m : Int)) = gi ((max (r - m) (m + 2) : Nat) : Int) := by
    rw [show (2 : Int32) = gi 2 from rfl, gi_sub, gi_add]
    by_cases h : (r : Int) - (m : Int) < (m : Int) + 2
    · rw [if_pos (by rw [gi_lt (by omega) (by omega) (by omega) (by omega)]; exact h)]
      congr 1
      omega
    · rw [if_neg (by rw [gi_lt (by omega) (by omega) (by omega) (by omega)]; exact h)]
      congr 1
      omega
  have es : gi (m : Int) + (if gi (r : Int) - gi (m : Int) < gi (m : Int) + 2 then gi (m : Int) + 2 else gi (r : Int) - gi (m : Int)) = gi (kcap r m : Int) := by
    rw [ex, gi_add]
    unfold kcap
    congr 1
  have hkc : kcap r m ≤ 70000 := by unfold kcap; omega
  have hk0 : 0 < kcap r m := by unfold kcap; omega
  refine k_callS (As := [.int (gi (m : Int)), .int (gi (r : Int) - gi (m : Int)), .int (gi (m : Int) + 2)]) (rest := []) ⟨hx, hb, hml, hown, htk, hF⟩ (show decode cJ5_newCapacity_0f7a4 29 = .ok (.invokestatic 114, 3) by decide +kernel) ⟨kw_16, kw_17, kw_18, kw_19⟩ (np := 3) (by decide +kernel) rfl ⟨Nat.le_of_ble_eq_true rfl, Nat.le_of_ble_eq_true rfl⟩ ⟨rfl, rfl⟩ hl.1 (Nat.le_of_ble_eq_true rfl) ⟨Nat.le_refl _, Nat.le_refl _⟩ hP hD hS (k_newLength (by rw [es, show (0 : Int32) = gi 0 from rfl, gi_lt (by omega) (by omega) (by omega) (by omega)]; omega) (by rw [es, show (2147483639 : Int32) = gi 2147483639 from rfl, gi_le (by omega) (by omega) (by omega) (by omega)]; omega)) (fun v ws1 H locs hv hP hD hS => ?_)
  obtain ⟨rfl, e9⟩ := hv
  rw [e9] at hP hD
  clear e9
  rw [es]
  refine lv_istore hx hb (show decode cJ5_newCapacity_0f7a4 32 = .ok (.istore 5, 2) by decide +kernel) hl (by decide) rfl (fun LS hl => ?_)
  have hl : lv_has LS 6 [(5, .int (gi (kcap r m : Int))), (4, .int (gi (r : Int) - gi (m : Int))), (3, .int (gi (r : Int))), (2, .int (gi (m : Int))), (0, .ref q), (1, .int (gi (r : Int)))] := hl
  refine lv_iload hx hb (show decode cJ5_newCapacity_0f7a4 34 = .ok (.iload 5, 2) by decide +kernel) (lv_at hl 0 rfl) ?_
  refine lv_ldc (v := 2147483647) hx hb hown (hts _ kw_20) (show decode cJ5_newCapacity_0f7a4 36 = .ok (.ldc 39, 2) by decide +kernel) ?_
  refine lv_icmp_ne hx hb (show decode cJ5_newCapacity_0f7a4 38 = .ok (.if_icmp .ne 13, 3) by decide +kernel) (tgt := 51) rfl (fun _ => ?_) (fun z => by rw [show (2147483647 : Int32) = gi 2147483647 from rfl, gi_eq (by omega) (by omega) (by omega) (by omega)] at z; omega)
  refine lv_iload hx hb (show decode cJ5_newCapacity_0f7a4 51 = .ok (.iload 5, 2) by decide +kernel) (lv_at hl 0 rfl) ?_
  refine lv_aload_n hx hb (show decode cJ5_newCapacity_0f7a4 53 = .ok (.aload_n 0, 1) by decide +kernel) rfl (lv_at hl 4 rfl) ?_
  refine va_get (D := gD E) (ci := 11) (C := RJ4) (T := TJ4) (N := 4) hx hb hts kgb hown hK hP q0 h0 rfl 1 (by decide) (hts _ kw_14) (fun _ h9 => h9) rfl (show decode cJ5_newCapacity_0f7a4 54 = .ok (.getfield 22, 3) by decide +kernel) ?_
  refine lv_ishr hx hb (show decode cJ5_newCapacity_0f7a4 57 = .ok (.ishr, 1) by decide +kernel) ?_
  rw [ksr0]
  exact k_zret hx hb hr hlk rfl (by decide +kernel) hP hD hS ⟨rfl, rfl⟩

/-- ensureCapacityInternal -/
theorem k_ensure {E : gEn} {K : kEn} {ws : va_W} {q0 q1 q a n m r S : Nat} {z : Int32} {f : Nat → Int32} (h0 : ws[q0]? = some (q, kB a z n)) (h1 : ws[q1]? = some (a, .inl (gca E 3, m, .inl f))) (hfit : ∀ i, fits .byte (.int (f i)) = true) (hm9 : m ≤ 30000) (hr9 : r ≤ 30000) (hS9 : r ≤ m ∨ kcap r m ≤ S) : kM E K yJ5_ensureCapacityInternal_d00df cJ5_ensureCapacityInternal_d00df 3 none { frames := 3, cells := 1, slots := S, locals := 100 } [.ref q, .int (gi (r : Int))] ws (fun v ws1 => v = none ∧ (r ≤ m ∧ ws1 = ws ∨ m < r ∧ ∃ a2, ws1 = (ws ++ [(a2, (.inl (gca E 3, kcap r m, .inl (va_cpy f (fun _ => 0) 0 0 m)) : va_E))]).set q0 (q, kB a2 z n))) 1 S := by
  refine kM_of (by decide) (Nat.le_of_ble_eq_true rfl) ?_
  intro p e s mI args below meth cc hC H locs LS hP hD hS hA hl
  obtain ⟨hx, hb, hr, hml, hown, htk, hlk, hF, hnm⟩ := hC
  have hts : ∀ w ∈ gBig, w.before args s = true := fun w h => htk w (kBig_g h)
  have hE := hF.1
  have hK := hE.1
  have hl : lv_has LS 3 [(0, .ref q), (1, .int (gi (r : Int)))] := hl
  have hlt : q0 < ws.length := (List.getElem?_eq_some_iff.mp h0).1
  refine lv_aload_n hx hb (show decode cJ5_ensureCapacityInternal_d00df 0 = .ok (.aload_n 0, 1) by decide +kernel) rfl (lv_at hl 0 rfl) ?_
  refine va_get (D := gD E) (ci := 11) (C := RJ4) (T := TJ4) (N := 4) hx hb hts kgb hown hK hP q0 h0 rfl 0 (by decide) (hts _ kw_15) (fun _ h9 => h9) rfl (show decode cJ5_ensureCapacityInternal_d00df 1 = .ok (.getfield 15, 3) by decide +kernel) ?_
  refine va_alen hx hb hK hP q1 3 h1 rfl (gt_nat m) (show decode cJ5_ensureCapacityInternal_d00df 4 = .ok (.arraylength, 1) by decide +kernel) ?_
  refine lv_aload_n hx hb (show decode cJ5_ensureCapacityInternal_d00df 5 = .ok (.aload_n 0, 1) by decide +kernel) rfl (lv_at hl 0 rfl) ?_
  refine va_get (D := gD E) (ci := 11) (C := RJ4) (T := TJ4) (N := 4) hx hb hts kgb hown hK hP q0 h0 rfl 1 (by decide) (hts _ kw_14) (fun _ h9 => h9) rfl (show decode cJ5_ensureCapacityInternal_d00df 6 = .ok (.getfield 22, 3) by decide +kernel) ?_
  refine lv_ishr hx hb (show decode cJ5_ensureCapacityInternal_d00df 9 = .ok (.ishr, 1) by decide +kernel) ?_
  rw [ksr0]
  refine lv_istore_n hx hb (show decode cJ5_ensureCapacityInternal_d00df 10 = .ok (.istore_n 2, 1) by decide +kernel) rfl hl (by decide) rfl (fun LS hl => ?_)
  have hl : lv_has LS 3 [(2, .int (gi (m : Int))), (0, .ref q), (1, .int (gi (r : Int)))] := hl
  refine lv_iload_n hx hb (show decode cJ5_ensureCapacityInternal_d00df 11 = .ok (.iload_n 1, 1) by decide +kernel) rfl (lv_at hl 2 rfl) ?_
  refine lv_iload_n hx hb (show decode cJ5_ensureCapacityInternal_d00df 12 = .ok (.iload_n 2, 1) by decide +kernel) rfl (lv_at hl 0 rfl) ?_
  refine lv_isub hx hb (show decode cJ5_ensureCapacityInternal_d00df 13 = .ok (.isub, 1) by decide +kernel) ?_
  rw [gi_sub]
  refine lv_if_le hx hb (show decode cJ5_ensureCapacityInternal_d00df 14 = .ok (.ifCond .le 24, 3) by decide +kernel) (tgt := 38) rfl (fun h9 => ?_) (fun h9 => ?_)
  · rw [show (0 : Int32) = gi 0 from rfl, gi_le (by omega) (by omega) (by omega) (by omega)] at h9
    refine W.widen (k := 1) (n := S) (Nat.zero_le _) (Nat.zero_le _) ?_
    exact k_vret hx hb hr hlk (by decide +kernel) hP hD hS ⟨rfl, Or.inl ⟨by omega, rfl⟩⟩
  · rw [show (0 : Int32) = gi 0 from rfl, gi_le (by omega) (by omega) (by omega) (by omega)] at h9
    have hkS : kcap r m ≤ S := by omega
    have hkc : kcap r m ≤ 65536 := by unfold kcap; omega
    have hkm : m < kcap r m := by unfold kcap; omega
    refine lv_aload_n hx hb (show decode cJ5_ensureCapacityInternal_d00df 17 = .ok (.aload_n 0, 1) by decide +kernel) rfl (lv_at hl 1 rfl) ?_
    refine lv_aload_n hx hb (show decode cJ5_ensureCapacityInternal_d00df 18 = .ok (.aload_n 0, 1) by decide +kernel) rfl (lv_at hl 1 rfl) ?_
    refine va_get (D := gD E) (ci := 11) (C := RJ4) (T := TJ4) (N := 4) hx hb hts kgb hown hK hP q0 h0 rfl 0 (by decide) (hts _ kw_15) (fun _ h9 => h9) rfl (show decode cJ5_ensureCapacityInternal_d00df 19 = .ok (.getfield 15, 3) by decide +kernel) ?_
    refine lv_aload_n hx hb (show decode cJ5_ensureCapacityInternal_d00df 22 = .ok (.aload_n 0, 1) by decide +kernel) rfl (lv_at hl 1 rfl) ?_
    refine lv_iload_n hx hb (show decode cJ5_ensureCapacityInternal_d00df 23 = .ok (.iload_n 1, 1) by decide +kernel) rfl (lv_at hl 2 rfl) ?_
    refine k_callU (C := RJ4) (As := [.int (gi (r : Int))]) (rest := [.ref a, .ref q]) ⟨hx, hb, hml, hown, htk, hF⟩ (show decode cJ5_ensureCapacityInternal_d00df 24 = .ok (.invokevirtual 104, 3) by decide +kernel) ⟨kw_21, kw_22, kw_23, kw_24, kw_25⟩ kSel_1 (np := 1) (by decide +kernel) rfl ⟨Nat.le_of_ble_eq_true rfl, Nat.le_of_ble_eq_true rfl⟩ ⟨rfl, rfl⟩ (va_recv hK hP (ci := 11) rfl h0) hl.1 (Nat.le_of_ble_eq_true rfl) ⟨Nat.zero_le _, Nat.zero_le _⟩ hP hD hS (k_newCapacity h0 h1 (by omega) hr9) (fun v ws1 H locs hv hP hD hS => ?_)
    obtain ⟨rfl, e9⟩ := hv
    rw [e9] at hP hD
    clear e9
    refine lv_aload_n hx hb (show decode cJ5_ensureCapacityInternal_d00df 27 = .ok (.aload_n 0, 1) by decide +kernel) rfl (lv_at hl 1 rfl) ?_
    refine va_get (D := gD E) (ci := 11) (C := RJ4) (T := TJ4) (N := 4) hx hb hts kgb hown hK hP q0 h0 rfl 1 (by decide) (hts _ kw_14) (fun _ h9 => h9) rfl (show decode cJ5_ensureCapacityInternal_d00df 28 = .ok (.getfield 22, 3) by decide +kernel) ?_
    refine lv_ishl hx hb (show decode cJ5_ensureCapacityInternal_d00df 31 = .ok (.ishl, 1) by decide +kernel) ?_
    rw [ksh0]
    refine k_callS (As := [.ref a, .int (gi (kcap r m : Int))]) (rest := [.ref q]) ⟨hx, hb, hml, hown, htk, hF⟩ (show decode cJ5_ensureCapacityInternal_d00df 32 = .ok (.invokestatic 108, 3) by decide +kernel) ⟨kw_26, kw_27, kw_28, kw_29⟩ (np := 2) (by decide +kernel) rfl ⟨Nat.le_of_ble_eq_true rfl, Nat.le_of_ble_eq_true rfl⟩ ⟨rfl, rfl⟩ hl.1 (Nat.le_of_ble_eq_true rfl) ⟨Nat.le_refl _, by show 0 + 0 + kcap r m ≤ S; omega⟩ hP hD hS (k_copyOf h1 hfit hkm hkc) (fun v ws1 H locs hv hP hD hS => ?_)
    obtain ⟨a2, rfl, e9⟩ := hv
    rw [e9] at hP hD
    clear e9
    have h0' : (ws ++ [(a2, (.inl (gca E 3, kcap r m, .inl (va_cpy f (fun _ => 0) 0 0 m)) : va_E))])[q0]? = some (q, kB a z n) := by rw [List.getElem?_append_left hlt]; exact h0
    refine va_put (D := gD E) (ci := 11) (v := .ref a2) (ty := .array .byte) (C := RJ4) (T := TJ4) (N := 4) hx hb hts kgb ktyJ4 ktyJ4_ok (by decide +kernel) hown hK hP hD hS q0 h0' rfl 0 (by decide) (hts _ kw_15) (fun _ h9 => h9) rfl (by decide +kernel) rfl rfl (Nat.le_of_ble_eq_true rfl) (show decode cJ5_ensureCapacityInternal_d00df 35 = .ok (.putfield 15, 3) by decide +kernel) (fun H locs hP hD hS => ?_)
    refine W.widen (k := 1) (n := S) (Nat.le_refl _) (by show 0 + 0 + kcap r m ≤ S; omega) ?_
    exact k_vret hx hb hr hlk (by decide +kernel) hP hD hS ⟨rfl, Or.inr ⟨by omega, a2, rfl⟩⟩
