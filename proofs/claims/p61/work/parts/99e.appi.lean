/-! ===== appends of numbers (by wip/p61/p99e.py) ===== -/
/-- the digits of a small number -/
def dgL (x : Nat) : List Int := if x < 10 then [((48 + x : Nat) : Int)] else [((48 + x / 10 : Nat) : Int), ((48 + x % 10 : Nat) : Int)]
theorem dgL_len (x : Nat) : (dgL x).length = ksz x := by
  unfold dgL ksz
  split <;> rfl
theorem getD_app1 {α : Type} {d : α} {l1 l2 : List α} {j : Nat} (h : j < l1.length) : (l1 ++ l2).getD j d = l1.getD j d := by
  rw [List.getD_eq_getElem?_getD, List.getD_eq_getElem?_getD, List.getElem?_append_left h]
theorem getD_app2 {α : Type} {d : α} {l1 l2 : List α} {j : Nat} (h : l1.length ≤ j) : (l1 ++ l2).getD j d = l2.getD (j - l1.length) d := by
  rw [List.getD_eq_getElem?_getD, List.getD_eq_getElem?_getD, List.getElem?_append_right h]
/-- a new text whose bytes stand in the builder -/
theorem Sb.new {E : gEn} {ws : va_W} {q0 q1 q a m : Nat} {z : Int32} {t u : List Int} {f g : Nat → Int32} (h : Sb E ws q0 q1 q z t a m f) (hm : u.length ≤ m) (hg : ∀ i, fits .byte (.int (g i)) = true) (hu : ∀ i, i < u.length → g i = gi (u.getD i 0)) : Sb E ((ws.set q1 (a, .inl (gca E 3, m, .inl g))).set q0 (q, kB a z u.length)) q0 q1 q z u a m g := by
  have hne := h.ne
  obtain ⟨g1, g2, g3, g4, g5, g6⟩ := h
  have hl0 : q0 < ws.length := (List.getElem?_eq_some_iff.mp g1).1
  have hl1 : q1 < ws.length := (List.getElem?_eq_some_iff.mp g2).1
  refine ⟨?_, ?_, hg, hm, g5, hu⟩
  · rw [List.getElem?_set_self (by rw [List.length_set]; exact hl0)]
  · rw [List.getElem?_set_ne hne, List.getElem?_set_self hl1]
theorem kFr.put2 {ws ws1 : va_W} {q0 q1 q2 : Nat} {x y : Nat × va_E} (h : kFr ws ws1 q0 q1) (hq : q2 = q1 ∨ ws.length ≤ q2) : kFr ws ((ws1.set q2 y).set q0 x) q0 q1 := by
  refine ⟨by rw [List.length_set, List.length_set]; exact h.1, fun k hk h0 h1 => ?_⟩
  rw [List.getElem?_set_ne (by omega), List.getElem?_set_ne (by omega)]
  exact h.2 k hk h0 h1
theorem upd_fit {f : Nat → Int32} {k : Nat} {v : Int32} (hf : ∀ i, fits .byte (.int (f i)) = true) (hv : fits .byte (.int v) = true) : ∀ i, fits .byte (.int (upd f k v i)) = true := by
  intro i
  show fits .byte (.int (if i = k then v else f i)) = true
  by_cases h : i = k
  · rw [if_pos h]
    exact hv
  · rw [if_neg h]
    exact hf i
theorem kgc_fit {f : Nat → Int32} {x r : Nat} (hf : ∀ i, fits .byte (.int (f i)) = true) (hx : x < 100) : ∀ i, fits .byte (.int (kgc f x r i)) = true := by
  unfold kgc
  split
  · exact upd_fit hf (kbyte (48 + x % 10) (by omega)).2.1
  · exact upd_fit (upd_fit hf (kbyte (48 + x % 10) (by omega)).2.1) (kbyte (48 + x / 10) (by omega)).2.1
theorem kgc_at {f : Nat → Int32} {x : Nat} {t : List Int} (hx : x < 100) (ht : ∀ i, i < t.length → f i = gi (t.getD i 0)) : ∀ i, i < (t ++ dgL x).length → kgc f x (t.length + ksz x) i = gi ((t ++ dgL x).getD i 0) := by
  intro i hi
  rw [List.length_append, dgL_len] at hi
  unfold kgc ksz dgL at *
  by_cases h : x < 10
  · rw [if_pos h] at hi
    rw [if_pos h, if_pos h, if_pos h]
    unfold upd
    by_cases e : i = t.length
    · rw [if_pos (by omega), e, getD_app2 (Nat.le_refl _), Nat.sub_self, show x % 10 = x by omega]
      rfl
    · rw [if_neg (by omega), getD_app1 (by omega)]
      exact ht i (by omega)
  · rw [if_neg h] at hi
    rw [if_neg h, if_neg h, if_neg h]
    unfold upd
    by_cases e : i = t.length
    · rw [if_pos (by omega), e, getD_app2 (Nat.le_refl _), Nat.sub_self]
      rfl
    · rw [if_neg (by omega)]
      by_cases e2 : i = t.length + 1
      · rw [if_pos (by omega), e2, getD_app2 (by omega), Nat.add_sub_cancel_left]
        rfl
      · rw [if_neg (by omega), getD_app1 (by omega)]
        exact ht i (by omega)
theorem kw_51 : (Cond.methodLink "java/lang/AbstractStringBuilder" 245 yJ6_stringSize_0f7a4) ∈ gBig := gBig_of (gpc3 (List.mem_of_getElem? (i := 21) rfl)) rfl
theorem kw_52 : (Cond.static yJ6_stringSize_0f7a4) ∈ gBig := gBig_of (gpc3 (List.mem_of_getElem? (i := 22) rfl)) rfl
theorem kw_53 : (Cond.initialized "java/lang/Integer") ∈ gBig := gBig_of (gpc1 (List.mem_of_getElem? (i := 14) rfl)) rfl
theorem kw_54 : (Cond.code yJ6_stringSize_0f7a4 cJ6_stringSize_0f7a4 4 (some .int)) ∈ gBig := gBig_of (gpc3 (List.mem_of_getElem? (i := 23) rfl)) rfl
theorem kw_55 : (Cond.methodLink "java/lang/AbstractStringBuilder" 248 yJ6_getChars_ba4f3) ∈ gBig := gBig_of (gpc3 (List.mem_of_getElem? (i := 24) rfl)) rfl
theorem kw_56 : (Cond.static yJ6_getChars_ba4f3) ∈ gBig := gBig_of (gpc3 (List.mem_of_getElem? (i := 25) rfl)) rfl
theorem kw_57 : (Cond.code yJ6_getChars_ba4f3 cJ6_getChars_ba4f3 7 (some .int)) ∈ gBig := gBig_of (gpc3 (List.mem_of_getElem? (i := 26) rfl)) rfl
theorem kw_58 : (Cond.methodLink "java/lang/StringBuilder" 53 yJ5_append_c97b9) ∈ gBig := gBig_of (gpc3 (List.mem_of_getElem? (i := 18) rfl)) rfl
theorem kw_59 : (Cond.sameMethod "java/lang/AbstractStringBuilder" "java/lang/AbstractStringBuilder" "append" "(I)Ljava/lang/AbstractStringBuilder;") ∈ gBig := gBig_of (gpc6 (List.mem_of_getElem? (i := 214) rfl)) rfl
theorem kw_60 : (Cond.instanceMethod yJ5_append_c97b9) ∈ gBig := gBig_of (gpc3 (List.mem_of_getElem? (i := 19) rfl)) rfl
theorem kw_61 : (Cond.code yJ5_append_c97b9 cJ5_append_c97b9 4 (some (.object "java/lang/AbstractStringBuilder"))) ∈ gBig := gBig_of (gpc3 (List.mem_of_getElem? (i := 20) rfl)) rfl
/-- AbstractStringBuilder.append(int), a small number -/
theorem k_appI {E : gEn} {K : kEn} {ws : va_W} {q0 q1 q a m x : Nat} {z : Int32} {t : List Int} {f : Nat → Int32} (hSb : Sb E ws q0 q1 q z t a m f) (ht : t.length ≤ 348) (hx9 : x < 100) : kM E K yJ5_append_c97b9 cJ5_append_c97b9 4 (some (.object "java/lang/AbstractStringBuilder")) { frames := 4, cells := 1, slots := 700, locals := 140 } [.ref q, .int (gi (x : Int))] ws (fun v ws1 => v = some (.ref q) ∧ ∃ q2 a2 m2 f2, Sb E ws1 q0 q2 q z (t ++ dgL x) a2 m2 f2 ∧ kFr ws ws1 q0 q1 ∧ (q2 = q1 ∨ ws.length ≤ q2)) 1 700 := by
  refine kM_of (by decide) (Nat.le_of_ble_eq_true rfl) ?_
  intro p e s mI args below meth cc hC H locs LS hP hD hS hA hl
  obtain ⟨hx, hb, hr, hml, hown, htk, hlk, hF, hnm⟩ := hC
  have hts : ∀ w ∈ gBig, w.before args s = true := fun w h => htk w (kBig_g h)
  have hE := hF.1
  have hK := hE.1
  have hl : lv_has LS 4 [(0, .ref q), (1, .int (gi (x : Int)))] := hl
  obtain ⟨h0, h1, hfit, hlm, hm9, hfx⟩ := id hSb
  have hsz : ksz x ≤ 2 := by unfold ksz; split <;> omega
  have e1 : gi (t.length : Int) + gi (ksz x : Int) = gi ((t.length + ksz x : Nat) : Int) := by rw [gi_add]; rfl
  refine lv_aload_n hx hb (show decode cJ5_append_c97b9 0 = .ok (.aload_n 0, 1) by decide +kernel) rfl (lv_at hl 0 rfl) ?_
  refine va_get (D := gD E) (ci := 11) (C := RJ4) (T := TJ4) (N := 4) hx hb hts kgb hown hK hP q0 h0 rfl 3 (by decide) (hts _ kw_30) (fun _ h9 => h9) rfl (show decode cJ5_append_c97b9 1 = .ok (.getfield 79, 3) by decide +kernel) ?_
  refine lv_istore_n hx hb (show decode cJ5_append_c97b9 4 = .ok (.istore_n 2, 1) by decide +kernel) rfl hl (by decide) rfl (fun LS hl => ?_)
  have hl : lv_has LS 4 [(2, .int (gi (t.length : Int))), (0, .ref q), (1, .int (gi (x : Int)))] := hl
  refine lv_iload_n hx hb (show decode cJ5_append_c97b9 5 = .ok (.iload_n 2, 1) by decide +kernel) rfl (lv_at hl 0 rfl) ?_
  refine lv_iload_n hx hb (show decode cJ5_append_c97b9 6 = .ok (.iload_n 1, 1) by decide +kernel) rfl (lv_at hl 2 rfl) ?_
  refine k_callS (As := [.int (gi (x : Int))]) (rest := [.int (gi (t.length : Int))]) ⟨hx, hb, hml, hown, htk, hF⟩ (show decode cJ5_append_c97b9 7 = .ok (.invokestatic 245, 3) by decide +kernel) ⟨kw_51, kw_52, kw_53, kw_54⟩ (np := 1) (by decide +kernel) rfl ⟨Nat.le_of_ble_eq_true rfl, Nat.le_of_ble_eq_true rfl⟩ ⟨rfl, rfl⟩ hl.1 (Nat.le_of_ble_eq_true rfl) ⟨Nat.le_of_ble_eq_true rfl, Nat.le_of_ble_eq_true rfl⟩ hP hD hS (k_stringSize hx9) (fun v ws9 H locs hv hP hD hS => ?_)
  obtain ⟨rfl, e9⟩ := hv
  rw [e9] at hP hD
  clear e9
  refine lv_iadd hx hb (show decode cJ5_append_c97b9 10 = .ok (.iadd, 1) by decide +kernel) ?_
  rw [e1]
  refine lv_istore_n hx hb (show decode cJ5_append_c97b9 11 = .ok (.istore_n 3, 1) by decide +kernel) rfl hl (by decide) rfl (fun LS hl => ?_)
  have hl : lv_has LS 4 [(3, .int (gi ((t.length + ksz x : Nat) : Int))), (2, .int (gi (t.length : Int))), (0, .ref q), (1, .int (gi (x : Int)))] := hl
  refine lv_aload_n hx hb (show decode cJ5_append_c97b9 12 = .ok (.aload_n 0, 1) by decide +kernel) rfl (lv_at hl 2 rfl) ?_
  refine lv_iload_n hx hb (show decode cJ5_append_c97b9 13 = .ok (.iload_n 3, 1) by decide +kernel) rfl (lv_at hl 0 rfl) ?_
  refine k_callU (C := RJ4) (As := [.int (gi ((t.length + ksz x : Nat) : Int))]) (rest := []) ⟨hx, hb, hml, hown, htk, hF⟩ (show decode cJ5_append_c97b9 14 = .ok (.invokevirtual 100, 3) by decide +kernel) ⟨kw_31, kw_32, kw_33, kw_24, kw_34⟩ kSel_0 (np := 1) (by decide +kernel) rfl ⟨Nat.le_of_ble_eq_true rfl, Nat.le_of_ble_eq_true rfl⟩ ⟨rfl, rfl⟩ (va_recv hK hP (ci := 11) rfl h0) hl.1 (Nat.le_of_ble_eq_true rfl) ⟨Nat.le_of_ble_eq_true rfl, Nat.le_of_ble_eq_true rfl⟩ hP hD hS (k_ensure (S := 700) h0 h1 hfit hm9 (by omega) (by by_cases hh : t.length + ksz x ≤ m; exact Or.inl hh; exact Or.inr (Nat.le_trans (kcap_le (by omega)).1 (by omega)))) (fun v ws1 H locs hv hP hD hS => ?_)
  obtain ⟨rfl, hp⟩ := hv
  obtain ⟨q2, a2, m2, f2, hS2, hr2, hF2, hq2⟩ := k_ens (r := t.length + ksz x) hSb (by omega) (by omega) hp
  obtain ⟨h0, h1, hfit2, hlm2, hm92, hfx2⟩ := id hS2
  refine lv_aload_n hx hb (show decode cJ5_append_c97b9 17 = .ok (.aload_n 0, 1) by decide +kernel) rfl (lv_at hl 2 rfl) ?_
  refine k_callU (C := RJ4) (As := []) (rest := []) ⟨hx, hb, hml, hown, htk, hF⟩ (show decode cJ5_append_c97b9 18 = .ok (.invokevirtual 83, 3) by decide +kernel) ⟨kw_35, kw_36, kw_37, kw_24, kw_38⟩ (kBig_g kw_39) (np := 0) (by decide +kernel) rfl ⟨Nat.le_of_ble_eq_true rfl, Nat.le_of_ble_eq_true rfl⟩ ⟨rfl, rfl⟩ (va_recv hK hP (ci := 11) rfl h0) hl.1 (Nat.le_of_ble_eq_true rfl) ⟨Nat.le_of_ble_eq_true rfl, Nat.le_of_ble_eq_true rfl⟩ hP hD hS (k_isLatin1 h0) (fun v ws9 H locs hv hP hD hS => ?_)
  obtain ⟨rfl, e9⟩ := hv
  rw [e9] at hP hD
  clear e9
  refine lv_if_eq hx hb (show decode cJ5_append_c97b9 21 = .ok (.ifCond .eq 16, 3) by decide +kernel) (tgt := 37) rfl (fun z => absurd z (by decide)) (fun _ => ?_)
  refine lv_iload_n hx hb (show decode cJ5_append_c97b9 24 = .ok (.iload_n 1, 1) by decide +kernel) rfl (lv_at hl 3 rfl) ?_
  refine lv_iload_n hx hb (show decode cJ5_append_c97b9 25 = .ok (.iload_n 3, 1) by decide +kernel) rfl (lv_at hl 0 rfl) ?_
  refine lv_aload_n hx hb (show decode cJ5_append_c97b9 26 = .ok (.aload_n 0, 1) by decide +kernel) rfl (lv_at hl 2 rfl) ?_
  refine va_get (D := gD E) (ci := 11) (C := RJ4) (T := TJ4) (N := 4) hx hb hts kgb hown hK hP q0 h0 rfl 0 (by decide) (hts _ kw_15) (fun _ h9 => h9) rfl (show decode cJ5_append_c97b9 27 = .ok (.getfield 15, 3) by decide +kernel) ?_
  refine k_callS (As := [.int (gi (x : Int)), .int (gi ((t.length + ksz x : Nat) : Int)), .ref a2]) (rest := []) ⟨hx, hb, hml, hown, htk, hF⟩ (show decode cJ5_append_c97b9 30 = .ok (.invokestatic 248, 3) by decide +kernel) ⟨kw_55, kw_56, kw_53, kw_57⟩ (np := 3) (by decide +kernel) rfl ⟨Nat.le_of_ble_eq_true rfl, Nat.le_of_ble_eq_true rfl⟩ ⟨rfl, rfl⟩ hl.1 (Nat.le_of_ble_eq_true rfl) ⟨Nat.le_of_ble_eq_true rfl, Nat.le_of_ble_eq_true rfl⟩ hP hD hS (k_getChars h1 hx9 (by omega) hr2 hm92) (fun v ws9 H locs hv hP hD hS => ?_)
  obtain ⟨⟨y9, rfl⟩, e9⟩ := hv
  rw [e9] at hP hD
  clear e9
  refine lv_pop hx hb (show decode cJ5_append_c97b9 33 = .ok (.pop, 1) by decide +kernel) rfl ?_
  refine lv_goto hx hb (show decode cJ5_append_c97b9 34 = .ok (.goto 14, 3) by decide +kernel) (tgt := 48) rfl ?_
  refine lv_aload_n hx hb (show decode cJ5_append_c97b9 48 = .ok (.aload_n 0, 1) by decide +kernel) rfl (lv_at hl 2 rfl) ?_
  refine lv_iload_n hx hb (show decode cJ5_append_c97b9 49 = .ok (.iload_n 3, 1) by decide +kernel) rfl (lv_at hl 0 rfl) ?_
  have h0' : (ws1.set q2 (a2, (.inl (gca E 3, m2, .inl (kgc f2 x (t.length + ksz x))) : va_E)))[q0]? = some (q, kB a2 z t.length) := by rw [List.getElem?_set_ne (Ne.symm hS2.ne)]; exact h0
  refine va_put (D := gD E) (ci := 11) (v := .int (gi ((t.length + ksz x : Nat) : Int))) (ty := .int) (C := RJ4) (T := TJ4) (N := 4) hx hb hts kgb ktyJ4 ktyJ4_ok (by decide +kernel) hown hK hP hD hS q0 h0' rfl 3 (by decide) (hts _ kw_30) (fun _ h9 => h9) rfl (by decide +kernel) rfl rfl (Nat.le_of_ble_eq_true rfl) (show decode cJ5_append_c97b9 50 = .ok (.putfield 79, 3) by decide +kernel) (fun H locs hP hD hS => ?_)
  refine lv_aload_n hx hb (show decode cJ5_append_c97b9 53 = .ok (.aload_n 0, 1) by decide +kernel) rfl (lv_at hl 2 rfl) ?_
  have hS3 := hS2.new (u := t ++ dgL x) (g := kgc f2 x (t.length + ksz x)) (by rw [List.length_append, dgL_len]; exact hr2) (kgc_fit hfit2 hx9) (kgc_at hx9 hfx2)
  rw [List.length_append, dgL_len] at hS3
  exact k_aret hx hb hr (Or.inl ⟨_, rfl⟩) hlk (by decide +kernel) hP hD hS ⟨rfl, q2, a2, m2, _, hS3, hF2.put2 hq2, hq2⟩

/-- StringBuilder.append(int) -/
theorem k_sbI {E : gEn} {K : kEn} {ws : va_W} {q0 q1 q a m x : Nat} {z : Int32} {t : List Int} {f : Nat → Int32} (hSb : Sb E ws q0 q1 q z t a m f) (ht : t.length ≤ 348) (hx9 : x < 100) : kM E K yJ4_append_bf812 cJ4_append_bf812 2 (some (.object "java/lang/StringBuilder")) { frames := 5, cells := 1, slots := 700, locals := 170 } [.ref q, .int (gi (x : Int))] ws (fun v ws1 => v = some (.ref q) ∧ ∃ q2 a2 m2 f2, Sb E ws1 q0 q2 q z (t ++ dgL x) a2 m2 f2 ∧ kFr ws ws1 q0 q1 ∧ (q2 = q1 ∨ ws.length ≤ q2)) 1 700 := by
  refine kM_of (by decide) (Nat.le_of_ble_eq_true rfl) ?_
  intro p e s mI args below meth cc hC H locs LS hP hD hS hA hl
  obtain ⟨hx, hb, hr, hml, hown, htk, hlk, hF, hnm⟩ := hC
  have hts : ∀ w ∈ gBig, w.before args s = true := fun w h => htk w (kBig_g h)
  have hE := hF.1
  have hK := hE.1
  have hl : lv_has LS 2 [(0, .ref q), (1, .int (gi (x : Int)))] := hl
  refine lv_aload_n hx hb (show decode cJ4_append_bf812 0 = .ok (.aload_n 0, 1) by decide +kernel) rfl (lv_at hl 0 rfl) ?_
  refine lv_iload_n hx hb (show decode cJ4_append_bf812 1 = .ok (.iload_n 1, 1) by decide +kernel) rfl (lv_at hl 1 rfl) ?_
  refine k_callX (qc := (RJ4, TJ4, 4)) (ci := 11) (As := [.int (gi (x : Int))]) (rest := []) ⟨hx, hb, hml, hown, htk, hF⟩ (show decode cJ4_append_bf812 2 = .ok (.invokespecial 53, 3) by decide +kernel) ⟨kw_58, kw_59, kw_46, kw_60, kw_24, kw_61⟩ (np := 1) (by decide +kernel) rfl ⟨Nat.le_of_ble_eq_true rfl, Nat.le_of_ble_eq_true rfl⟩ ⟨rfl, rfl⟩ rfl hSb.1 hl.1 (Nat.le_of_ble_eq_true rfl) ⟨Nat.le_of_ble_eq_true rfl, Nat.le_of_ble_eq_true rfl⟩ hP hD hS (k_appI hSb ht hx9) (fun v ws1 H locs hv hP hD hS => ?_)
  obtain ⟨rfl, q2, a2, m2, f2, hS2, hF2, hq2⟩ := hv
  refine lv_pop hx hb (show decode cJ4_append_bf812 5 = .ok (.pop, 1) by decide +kernel) rfl ?_
  refine lv_aload_n hx hb (show decode cJ4_append_bf812 6 = .ok (.aload_n 0, 1) by decide +kernel) rfl (lv_at hl 0 rfl) ?_
  exact k_aret hx hb hr (Or.inl ⟨_, rfl⟩) hlk (by decide +kernel) hP hD hS ⟨rfl, q2, a2, m2, f2, hS2, hF2, hq2⟩
