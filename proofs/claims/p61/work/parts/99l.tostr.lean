/-! ===== toString (by wip/p61/p99l.py) ===== -/
theorem kguS : ∀ w ∈ u_ws RJ0 TJ0 4, w ∈ lw_tbl := by decide +kernel
theorem kggS : ∀ w ∈ u_ws RJ0 TJ0 4, goodWord w = true := by decide +kernel
theorem kgS : ∀ w ∈ u_ws RJ0 TJ0 4, w ∈ gBig := fun w hw => gBig_of (kguS w hw) (kggS w hw)
def ktyJ0 : Nat → FieldType := fun k => match k with
  | 0 => .array .byte
  | 1 => .byte
  | 2 => .int
  | _ => .boolean
theorem ktyJ0_ok : ∀ k, k < 4 → parseFieldDescriptor (TJ0 k).2.2.1 = some (ktyJ0 k) := by decide +kernel
theorem kw_127 : (Cond.methodLink "java/lang/StringBuilder" 343 yJ5_length_8abf5) ∈ gBig := gBig_of (gpc6 (List.mem_of_getElem? (i := 162) rfl)) rfl
theorem kw_128 : (Cond.sameMethod "java/lang/AbstractStringBuilder" "java/lang/AbstractStringBuilder" "length" "()I") ∈ gBig := gBig_of (gpc6 (List.mem_of_getElem? (i := 158) rfl)) rfl
theorem kw_129 : (Cond.instanceMethod yJ5_length_8abf5) ∈ gBig := gBig_of (gpc6 (List.mem_of_getElem? (i := 157) rfl)) rfl
theorem kw_130 : (Cond.code yJ5_length_8abf5 cJ5_length_8abf5 1 (some .int)) ∈ gBig := gBig_of (gpc6 (List.mem_of_getElem? (i := 163) rfl)) rfl
theorem kw_131 : (Cond.methodLink "java/lang/String" 1 objectInit) ∈ gBig := gBig_of (gpc6 (List.mem_of_getElem? (i := 150) rfl)) rfl
theorem kw_132 : (Cond.methodLink "java/lang/String" 552 yJ5_getValue_6d5f1) ∈ gBig := gBig_of (gpc6 (List.mem_of_getElem? (i := 151) rfl)) rfl
theorem kw_133 : (Cond.sameMethod "java/lang/AbstractStringBuilder" "java/lang/AbstractStringBuilder" "getValue" "()[B") ∈ gBig := gBig_of (gpc6 (List.mem_of_getElem? (i := 153) rfl)) rfl
theorem kw_134 : (Cond.instanceMethod yJ5_getValue_6d5f1) ∈ gBig := gBig_of (gpc6 (List.mem_of_getElem? (i := 152) rfl)) rfl
theorem kw_135 : (Cond.code yJ5_getValue_6d5f1 cJ5_getValue_6d5f1 1 (some (.array .byte))) ∈ gBig := gBig_of (gpc6 (List.mem_of_getElem? (i := 155) rfl)) rfl
theorem kw_136 : (Cond.selects "java/lang/StringBuilder" yJ5_getValue_6d5f1 yJ5_getValue_6d5f1) ∈ gBig := gBig_of (gpc6 (List.mem_of_getElem? (i := 154) rfl)) rfl
theorem kw_137 : (Cond.methodLink "java/lang/String" 549 yJ5_length_8abf5) ∈ gBig := gBig_of (gpc6 (List.mem_of_getElem? (i := 156) rfl)) rfl
theorem kw_138 : (Cond.selects "java/lang/StringBuilder" yJ5_length_8abf5 yJ4_length_8abf5) ∈ gBig := gBig_of (gpc6 (List.mem_of_getElem? (i := 159) rfl)) rfl
theorem kw_139 : (Cond.instanceMethod yJ4_length_8abf5) ∈ gBig := gBig_of (gpc6 (List.mem_of_getElem? (i := 160) rfl)) rfl
theorem kw_140 : (Cond.code yJ4_length_8abf5 cJ4_length_8abf5 1 (some .int)) ∈ gBig := gBig_of (gpc6 (List.mem_of_getElem? (i := 161) rfl)) rfl
theorem kw_141 : (Cond.methodLink "java/lang/String" 1047 yJ5_isLatin1_aae02) ∈ gBig := gBig_of (gpc6 (List.mem_of_getElem? (i := 164) rfl)) rfl
theorem kw_142 : (Cond.methodLink "java/lang/String" 54 yJ7_copyOfRange_39247) ∈ gBig := gBig_of (gpc6 (List.mem_of_getElem? (i := 165) rfl)) rfl
theorem kw_143 : (Cond.static yJ7_copyOfRange_39247) ∈ gBig := gBig_of (gpc6 (List.mem_of_getElem? (i := 166) rfl)) rfl
theorem kw_144 : (Cond.code yJ7_copyOfRange_39247 cJ7_copyOfRange_39247 3 (some (.array .byte))) ∈ gBig := gBig_of (gpc6 (List.mem_of_getElem? (i := 167) rfl)) rfl
theorem kw_145 : (Cond.methodLink "java/lang/String" 489 yJ0_init_db425) ∈ gBig := gBig_of (gpc6 (List.mem_of_getElem? (i := 147) rfl)) rfl
theorem kw_146 : (Cond.instanceMethod yJ0_init_db425) ∈ gBig := gBig_of (gpc6 (List.mem_of_getElem? (i := 148) rfl)) rfl
theorem kw_147 : (Cond.code yJ0_init_db425 cJ0_init_db425 5 none) ∈ gBig := gBig_of (gpc6 (List.mem_of_getElem? (i := 149) rfl)) rfl
/-- StringBuilder.length -/
theorem k_sbLen {E : gEn} {K : kEn} {ws : va_W} {q0 q a n : Nat} {z : Int32} (h0 : ws[q0]? = some (q, kB a z n)) : kM E K yJ4_length_8abf5 cJ4_length_8abf5 1 (some .int) { frames := 2, cells := 0, slots := 0, locals := 50 } [.ref q] ws (fun v ws1 => v = some (.int (gi (n : Int))) ∧ ws1 = ws) 0 0 := by
  refine kM_of (by decide) (Nat.le_of_ble_eq_true rfl) ?_
  intro p e s mI args below meth cc hC H locs LS hP hD hS hA hl
  obtain ⟨hx, hb, hr, hml, hown, htk, hlk, hF, hnm⟩ := hC
  have hts : ∀ w ∈ gBig, w.before args s = true := fun w h => htk w (kBig_g h)
  have hE := hF.1
  have hK := hE.1
  have hl : lv_has LS 1 [(0, .ref q)] := hl
  refine lv_aload_n hx hb (show decode cJ4_length_8abf5 0 = .ok (.aload_n 0, 1) by decide +kernel) rfl (lv_at hl 0 rfl) ?_
  refine k_callX (qc := (RJ4, TJ4, 4)) (ci := 11) (As := []) (rest := []) ⟨hx, hb, hml, hown, htk, hF⟩ (show decode cJ4_length_8abf5 1 = .ok (.invokespecial 343, 3) by decide +kernel) ⟨kw_127, kw_128, kw_46, kw_129, kw_24, kw_130⟩ (np := 0) (by decide +kernel) rfl ⟨Nat.le_of_ble_eq_true rfl, Nat.le_of_ble_eq_true rfl⟩ ⟨rfl, rfl⟩ rfl h0 hl.1 (Nat.le_of_ble_eq_true rfl) ⟨Nat.le_of_ble_eq_true rfl, Nat.le_of_ble_eq_true rfl⟩ hP hD hS (k_asbLen h0) (fun v ws9 H locs hv hP hD hS => ?_)
  obtain ⟨rfl, e9⟩ := hv
  rw [e9] at hP hD
  clear e9
  exact k_zret hx hb hr hlk rfl (by decide +kernel) hP hD hS ⟨rfl, rfl⟩

/-- String(AbstractStringBuilder, Void) -/
theorem k_strNew0 {E : gEn} {K : kEn} {ws : va_W} {qs s0 q0 q1 q a m9 : Nat} {z : Int32} {t : List Int} {f : Nat → Int32} (hs : ws[qs]? = some (s0, .inr (10, [.null, .int 0, .int 0, .int 0]))) (hSb : Sb E ws q0 q1 q z t a m9 f) : kM E K yJ0_init_db425 cJ0_init_db425 5 none { frames := 5, cells := 1, slots := t.length, locals := 150 } [.ref s0, .ref q, .null] ws (fun v ws1 => v = none ∧ ∃ a2 f2, ws1 = (ws.set qs (s0, .inr (10, [.null, .int 0, .int 0, .int 0])) ++ [(a2, (.inl (gca E 3, t.length, .inl f2) : va_E))]).set qs (s0, .inr (10, [.ref a2, .int 0, .int 0, .int 0])) ∧ ∀ i, i < t.length → f2 i = f i) 1 t.length := by
  refine kM_of (by decide) (Nat.le_of_ble_eq_true rfl) ?_
  intro p e s mI args below meth cc hC H locs LS hP hD hS hA hl
  obtain ⟨hx, hb, hr, hml, hown, htk, hlk, hF, hnm⟩ := hC
  have hts : ∀ w ∈ gBig, w.before args s = true := fun w h => htk w (kBig_g h)
  have hE := hF.1
  have hK := hE.1
  have hl : lv_has LS 5 [(0, .ref s0), (1, .ref q), (2, .null)] := hl
  obtain ⟨h0, h1, hfit, hlm, hm9, hfx⟩ := id hSb
  have hlt : qs < ws.length := (List.getElem?_eq_some_iff.mp hs).1
  have hne : qs ≠ q1 := fun h => by rw [h, h1] at hs; cases hs
  refine lv_aload_n hx hb (show decode cJ0_init_db425 0 = .ok (.aload_n 0, 1) by decide +kernel) rfl (lv_at hl 0 rfl) ?_
  refine W.objInit hx hb hown (hts _ kw_131) (hts _ gwi_1) (hts _ gwi_2) rfl (by rw [hml]; exact hl.1) rfl (show decode cJ0_init_db425 1 = .ok (.invokespecial 1, 3) by decide +kernel) (Nat.le_of_ble_eq_true rfl) (Nat.le_of_ble_eq_true rfl) ?_
  refine W.eq (g2 := F0 mI 4 LS []) rfl ?_
  refine lv_aload_n hx hb (show decode cJ0_init_db425 4 = .ok (.aload_n 1, 1) by decide +kernel) rfl (lv_at hl 1 rfl) ?_
  refine k_callU (C := RJ4) (As := []) (rest := []) ⟨hx, hb, hml, hown, htk, hF⟩ (show decode cJ0_init_db425 5 = .ok (.invokevirtual 552, 3) by decide +kernel) ⟨kw_132, kw_133, kw_134, kw_24, kw_135⟩ (kBig_g kw_136) (np := 0) (by decide +kernel) rfl ⟨Nat.le_of_ble_eq_true rfl, Nat.le_of_ble_eq_true rfl⟩ ⟨rfl, rfl⟩ (va_recv hK hP (ci := 11) rfl h0) hl.1 (Nat.le_of_ble_eq_true rfl) ⟨Nat.le_of_ble_eq_true rfl, Nat.zero_le _⟩ hP hD hS (k_getValue h0) (fun v ws9 H locs hv hP hD hS => ?_)
  obtain ⟨rfl, e9⟩ := hv
  rw [e9] at hP hD
  clear e9
  refine lv_astore_n hx hb (show decode cJ0_init_db425 8 = .ok (.astore_n 3, 1) by decide +kernel) rfl hl (by decide) rfl (fun LS hl => ?_)
  have hl : lv_has LS 5 [(3, .ref a), (0, .ref s0), (1, .ref q), (2, .null)] := hl
  refine lv_aload_n hx hb (show decode cJ0_init_db425 9 = .ok (.aload_n 1, 1) by decide +kernel) rfl (lv_at hl 2 rfl) ?_
  refine k_callO (C := RJ4) (As := []) (rest := []) ⟨hx, hb, hml, hown, htk, hF⟩ (show decode cJ0_init_db425 10 = .ok (.invokevirtual 549, 3) by decide +kernel) ⟨kw_137, kw_128, kw_129, kw_138, kw_139, kw_92, kw_140, kw_130⟩ (np := 0) (by decide +kernel) rfl ⟨Nat.le_of_ble_eq_true rfl, Nat.le_of_ble_eq_true rfl⟩ ⟨rfl, rfl⟩ (va_recv hK hP (ci := 11) rfl h0) hl.1 (Nat.le_of_ble_eq_true rfl) ⟨Nat.le_of_ble_eq_true rfl, Nat.zero_le _⟩ hP hD hS (k_sbLen h0) (fun v ws9 H locs hv hP hD hS => ?_)
  obtain ⟨rfl, e9⟩ := hv
  rw [e9] at hP hD
  clear e9
  refine lv_istore hx hb (show decode cJ0_init_db425 13 = .ok (.istore 4, 2) by decide +kernel) hl (by decide) rfl (fun LS hl => ?_)
  have hl : lv_has LS 5 [(4, .int (gi (t.length : Int))), (3, .ref a), (0, .ref s0), (1, .ref q), (2, .null)] := hl
  refine lv_aload_n hx hb (show decode cJ0_init_db425 15 = .ok (.aload_n 1, 1) by decide +kernel) rfl (lv_at hl 3 rfl) ?_
  refine k_callU (C := RJ4) (As := []) (rest := []) ⟨hx, hb, hml, hown, htk, hF⟩ (show decode cJ0_init_db425 16 = .ok (.invokevirtual 1047, 3) by decide +kernel) ⟨kw_141, kw_36, kw_37, kw_24, kw_38⟩ (kBig_g kw_39) (np := 0) (by decide +kernel) rfl ⟨Nat.le_of_ble_eq_true rfl, Nat.le_of_ble_eq_true rfl⟩ ⟨rfl, rfl⟩ (va_recv hK hP (ci := 11) rfl h0) hl.1 (Nat.le_of_ble_eq_true rfl) ⟨Nat.le_of_ble_eq_true rfl, Nat.zero_le _⟩ hP hD hS (k_isLatin1 h0) (fun v ws9 H locs hv hP hD hS => ?_)
  obtain ⟨rfl, e9⟩ := hv
  rw [e9] at hP hD
  clear e9
  refine lv_if_eq hx hb (show decode cJ0_init_db425 19 = .ok (.ifCond .eq 22, 3) by decide +kernel) (tgt := 41) rfl (fun z => absurd z (by decide)) (fun _ => ?_)
  refine lv_aload_n hx hb (show decode cJ0_init_db425 22 = .ok (.aload_n 0, 1) by decide +kernel) rfl (lv_at hl 2 rfl) ?_
  refine lv_iconst (v := 0) hx hb (show decode cJ0_init_db425 23 = .ok (.iconst 0, 1) by decide +kernel) (by decide) ?_
  refine va_putF (D := gD E) (ci := 10) (v := .int 0) (ty := .byte) (C := RJ0) (T := TJ0) (N := 4) hx hb hts kgS ktyJ0 ktyJ0_ok (by decide +kernel) hown hK hP hD hS qs hs rfl 1 (by decide) (hts _ gws_sc) (fun _ h9 => h9) rfl hnm rfl (by decide +kernel) rfl rfl (Nat.le_of_ble_eq_true rfl) (show decode cJ0_init_db425 24 = .ok (.putfield 15, 3) by decide +kernel) (fun H locs hP hD hS => ?_)
  refine lv_aload_n hx hb (show decode cJ0_init_db425 27 = .ok (.aload_n 0, 1) by decide +kernel) rfl (lv_at hl 2 rfl) ?_
  refine lv_aload_n hx hb (show decode cJ0_init_db425 28 = .ok (.aload_n 3, 1) by decide +kernel) rfl (lv_at hl 1 rfl) ?_
  refine lv_iconst (v := 0) hx hb (show decode cJ0_init_db425 29 = .ok (.iconst 0, 1) by decide +kernel) (by decide) ?_
  refine lv_iload hx hb (show decode cJ0_init_db425 30 = .ok (.iload 4, 2) by decide +kernel) (lv_at hl 0 rfl) ?_
  have h1' : (ws.set qs (s0, .inr (10, [.null, .int 0, .int 0, .int 0])))[q1]? = some (a, .inl (gca E 3, m9, .inl f)) := by rw [List.getElem?_set_ne hne]; exact h1
  refine k_callS (As := [.ref a, .int 0, .int (gi (t.length : Int))]) (rest := [.ref s0]) ⟨hx, hb, hml, hown, htk, hF⟩ (show decode cJ0_init_db425 32 = .ok (.invokestatic 54, 3) by decide +kernel) ⟨kw_142, kw_143, kw_28, kw_144⟩ (np := 3) (by decide +kernel) rfl ⟨Nat.le_of_ble_eq_true rfl, Nat.le_of_ble_eq_true rfl⟩ ⟨rfl, rfl⟩ hl.1 (Nat.le_of_ble_eq_true rfl) ⟨Nat.le_of_ble_eq_true rfl, by show 0 + 0 + 0 + 0 + t.length ≤ t.length; omega⟩ hP hD hS (k_copyR h1' hfit hlm hm9) (fun v ws9 H locs hv hP hD hS => ?_)
  obtain ⟨a2, f2, rfl, e9, hf2⟩ := hv
  rw [e9] at hP hD
  have hs' : (ws.set qs (s0, .inr (10, [.null, .int 0, .int 0, .int 0])) ++ [(a2, (.inl (gca E 3, t.length, .inl f2) : va_E))])[qs]? = some (s0, .inr (10, [.null, .int 0, .int 0, .int 0])) := by rw [List.getElem?_append_left (by rw [List.length_set]; exact hlt), List.getElem?_set_self hlt]
  refine va_putF (D := gD E) (ci := 10) (v := .ref a2) (ty := .array .byte) (C := RJ0) (T := TJ0) (N := 4) hx hb hts kgS ktyJ0 ktyJ0_ok (by decide +kernel) hown hK hP hD hS qs hs' rfl 0 (by decide) (hts _ gws_sv) (fun _ h9 => h9) rfl hnm rfl (by decide +kernel) rfl rfl (Nat.le_of_ble_eq_true rfl) (show decode cJ0_init_db425 35 = .ok (.putfield 9, 3) by decide +kernel) (fun H locs hP hD hS => ?_)
  refine lv_goto hx hb (show decode cJ0_init_db425 38 = .ok (.goto 59, 3) by decide +kernel) (tgt := 97) rfl ?_
  refine W.widen (k := 1) (n := t.length) (Nat.le_of_ble_eq_true rfl) (by show 0 + 0 + 0 + 0 + t.length ≤ t.length; omega) ?_
  exact k_vret hx hb hr hlk (by decide +kernel) hP hD hS ⟨rfl, a2, f2, rfl, hf2⟩

/-- String(StringBuilder) -/
theorem k_strNew {E : gEn} {K : kEn} {ws : va_W} {qs s0 q0 q1 q a m9 : Nat} {z : Int32} {t : List Int} {f : Nat → Int32} (hs : ws[qs]? = some (s0, .inr (10, [.null, .int 0, .int 0, .int 0]))) (hSb : Sb E ws q0 q1 q z t a m9 f) : kM E K yJ0_init_81219 cJ0_init_81219 2 none { frames := 6, cells := 1, slots := t.length, locals := 190 } [.ref s0, .ref q] ws (fun v ws1 => v = none ∧ ∃ a2 f2, ws1 = (ws.set qs (s0, .inr (10, [.null, .int 0, .int 0, .int 0])) ++ [(a2, (.inl (gca E 3, t.length, .inl f2) : va_E))]).set qs (s0, .inr (10, [.ref a2, .int 0, .int 0, .int 0])) ∧ ∀ i, i < t.length → f2 i = f i) 1 t.length := by
  refine kM_of (by decide) (Nat.le_of_ble_eq_true rfl) ?_
  intro p e s mI args below meth cc hC H locs LS hP hD hS hA hl
  obtain ⟨hx, hb, hr, hml, hown, htk, hlk, hF, hnm⟩ := hC
  have hts : ∀ w ∈ gBig, w.before args s = true := fun w h => htk w (kBig_g h)
  have hE := hF.1
  have hK := hE.1
  have hl : lv_has LS 2 [(0, .ref s0), (1, .ref q)] := hl
  refine lv_aload_n hx hb (show decode cJ0_init_81219 0 = .ok (.aload_n 0, 1) by decide +kernel) rfl (lv_at hl 0 rfl) ?_
  refine lv_aload_n hx hb (show decode cJ0_init_81219 1 = .ok (.aload_n 1, 1) by decide +kernel) rfl (lv_at hl 1 rfl) ?_
  refine lv_null hx hb (show decode cJ0_init_81219 2 = .ok (.aconst_null, 1) by decide +kernel) ?_
  refine k_callI (As := [.ref q, .null]) (rest := []) ⟨hx, hb, hml, hown, htk, hF⟩ (show decode cJ0_init_81219 3 = .ok (.invokespecial 489, 3) by decide +kernel) ⟨kw_145, kw_146, kw_65, kw_147⟩ rfl (np := 2) (by decide +kernel) rfl ⟨Nat.le_of_ble_eq_true rfl, Nat.le_of_ble_eq_true rfl⟩ ⟨rfl, rfl⟩ hl.1 (Nat.le_of_ble_eq_true rfl) ⟨Nat.le_of_ble_eq_true rfl, by show 0 + t.length ≤ t.length; omega⟩ hP hD hS (k_strNew0 hs hSb) (fun v ws1 H locs hv hP hD hS => ?_)
  obtain ⟨rfl, hv⟩ := hv
  refine W.widen (k := 1) (n := t.length) (Nat.le_of_ble_eq_true rfl) (by show 0 + t.length ≤ t.length; omega) ?_
  exact k_vret hx hb hr hlk (by decide +kernel) hP hD hS ⟨rfl, hv⟩
