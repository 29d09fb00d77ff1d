/-! constructors 2 -/
def gzw_3 (E : gEn) (h0 : Nat) (u : Nat → Nat) : va_W := ((h0, .inr (3, [.ref (u 0), .int 0, .ref (u 1), .int 0, .int 0, .int 0, .int 0, .int 0, .int 0, .int 0, .int 0, .int 0, .int 0, .int 0])) :: ([((u 0), .inl (gca E 3, 700, .inl (fun _ => 0)))] ++ gzw_6 E (u 1) (fun k => u (k + 2))) : va_W)
set_option maxHeartbeats 4000000 in
set_option maxRecDepth 100000 in
theorem gi_3 (l : Launch) (E : gEn) (h0 sz : Nat) : Met l yX3_init (Cond.code yX3_init cX3_init 1 none :: gBig) ({ frames := 2, cells := 8, slots := 842, locals := 32 }) (va_Pc [.ref h0] (fun U => U.heap.size = sz ∧ va_P (gD E) vwCl [(h0, .inr (3, [.null, .int 0, .null, .int 0, .int 0, .int 0, .int 0, .int 0, .int 0, .int 0, .int 0, .int 0, .int 0, .int 0]))] U.heap ∧ va_K (gD E) vwCl (gtys E) U ∧ gNi U)) (va_Qv (fun _ : Nat → Nat => True) (fun u t => va_P (gD E) vwCl (gzw_3 E h0 u) t.heap ∧ va_D (va_A [(h0, .inr (3, [.null, .int 0, .null, .int 0, .int 0, .int 0, .int 0, .int 0, .int 0, .int 0, .int 0, .int 0, .int 0, .int 0]))] sz) (gzw_3 E h0 u)) (va_A [(h0, .inr (3, [.null, .int 0, .null, .int 0, .int 0, .int 0, .int 0, .int 0, .int 0, .int 0, .int 0, .int 0, .int 0, .int 0]))] sz)) 8 842 (va_A [(h0, .inr (3, [.null, .int 0, .null, .int 0, .int 0, .int 0, .int 0, .int 0, .int 0, .int 0, .int 0, .int 0, .int 0, .int 0]))] sz) := by
  refine Met.ofW (cc := cX3_init) (maxL := 1) (ret := none) (by decide) rfl ?_
  intro p e s m args below meth c s₁ B hml hv
  obtain ⟨rfl, hsz, hP, hK, hNi⟩ := hv
  have hx := B.exec
  have hb := B.bytes
  have hr := B.returns
  have hts := atoms_spec (ws := Cond.code yX3_init cX3_init 1 none :: gBig) B.pre
  have hts2 : ∀ w ∈ gBig, w.before #[.ref h0] s = true := fun w hw => hts w (List.mem_cons_of_mem _ hw)
  have hown : s.vm.findClass RX3 = some m.cls := findClass_of_methodNamed B.named
  have hlocks := B.notSynchronized
  have hin : meth.name = "<init>" := (name_of_methodNamed B.named B.method).1
  subst hsz
  have hD : va_D (va_A [(h0, .inr (3, [.null, .int 0, .null, .int 0, .int 0, .int 0, .int 0, .int 0, .int 0, .int 0, .int 0, .int 0, .int 0, .int 0]))] s.heap.size) [(h0, .inr (3, [.null, .int 0, .null, .int 0, .int 0, .int 0, .int 0, .int 0, .int 0, .int 0, .int 0, .int 0, .int 0, .int 0]))] := va_D1 _ _
  generalize hAe : va_A [(h0, .inr (3, [.null, .int 0, .null, .int 0, .int 0, .int 0, .int 0, .int 0, .int 0, .int 0, .int 0, .int 0, .int 0, .int 0]))] s.heap.size = A at hD ⊢
  have hA : ∀ q : Nat, s.heap.size ≤ q → A q := fun q h => by rw [← hAe]; exact Or.inr h
  have hS : va_S A s.heap s.heap [] := va_S.rf
  have hl := lv_entry ([.ref h0]) (n := 1) (Nat.le_of_ble_eq_true rfl)
  rw [lg_entry_eq]
  generalize (lg_sl ([.ref h0]) ++ List.replicate (1 - (lg_sl ([.ref h0])).length) Slot.unset).toArray = ls at hl ⊢
  have hl : lv_has ls 1 [(0, .ref h0)] := hl
  refine lv_aload_n hx hb (show decode cX3_init 0 = .ok (.aload_n 0, 1) by decide +kernel) rfl (lv_at hl 0 rfl) ?_
  refine W.objInit hx hb hown (hts2 _ gwk_15) (hts2 _ gwi_1) (hts2 _ gwi_2) rfl (by rw [hml]; exact hl.1) rfl (show decode cX3_init 1 = .ok (.invokespecial 3, 3) by decide +kernel) (Nat.le_of_ble_eq_true rfl) (Nat.le_of_ble_eq_true rfl) ?_
  refine W.eq (g2 := F0 m 4 ls []) rfl ?_
  refine lv_aload_n hx hb (show decode cX3_init 4 = .ok (.aload_n 0, 1) by decide +kernel) rfl (lv_at hl 0 rfl) ?_
  refine lv_sipush (v := 700) hx hb (show decode cX3_init 5 = .ok (.sipush 700, 3) by decide +kernel) (by decide) ?_
  refine va_newa (atype := .byte) (ty := .byte) (a0 := (700, .inl (fun _ => 0))) (N' := 700) hx hb (hts2 _ gwk_16) rfl hK hP hD hS hA (fun _ => rfl) (by decide) rfl (Nat.le_of_ble_eq_true rfl) (Nat.le_of_ble_eq_true rfl) (Nat.le_of_ble_eq_true rfl) (show decode cX3_init 8 = .ok (.newarray .byte, 2) by decide +kernel) (fun a0 cA H hK2 hP hD hS => ?_)
  have hcA : cA = gca E 3 := gca_eq hK2 3 rfl rfl
  subst hcA
  clear hK2
  have hP : va_P (gD E) vwCl ((h0, .inr (3, [.null, .int 0, .null, .int 0, .int 0, .int 0, .int 0, .int 0, .int 0, .int 0, .int 0, .int 0, .int 0, .int 0])) :: ([(a0, .inl (gca E 3, 700, .inl (fun _ => 0)))]) : va_W) H := hP
  have hD : va_D A ((h0, .inr (3, [.null, .int 0, .null, .int 0, .int 0, .int 0, .int 0, .int 0, .int 0, .int 0, .int 0, .int 0, .int 0, .int 0])) :: ([(a0, .inl (gca E 3, 700, .inl (fun _ => 0)))]) : va_W) := hD
  refine va_putF (D := gD E) (ci := 3) (v := .ref a0) (ty := .array .byte) (C := RX3) (T := TX3) (N := 14) hx hb hts2 (fun w hw => gBig_of (guw_3 w hw) (gug_3 w hw)) tyX3 tyX3_ok (by decide +kernel) hown hK hP hD hS 0 rfl rfl 0 (by decide) (hts2 _ gwk_17) (fun _ h9 => h9) rfl hin rfl (by decide +kernel) rfl rfl (Nat.le_of_ble_eq_true rfl) (show decode cX3_init 10 = .ok (.putfield 9, 3) by decide +kernel) (fun H locs hP hD hS => ?_)
  have hP : va_P (gD E) vwCl ((h0, .inr (3, [.ref a0, .int 0, .null, .int 0, .int 0, .int 0, .int 0, .int 0, .int 0, .int 0, .int 0, .int 0, .int 0, .int 0])) :: ([(a0, .inl (gca E 3, 700, .inl (fun _ => 0)))]) : va_W) H := hP
  have hD : va_D A ((h0, .inr (3, [.ref a0, .int 0, .null, .int 0, .int 0, .int 0, .int 0, .int 0, .int 0, .int 0, .int 0, .int 0, .int 0, .int 0])) :: ([(a0, .inl (gca E 3, 700, .inl (fun _ => 0)))]) : va_W) := hD
  refine lv_aload_n hx hb (show decode cX3_init 13 = .ok (.aload_n 0, 1) by decide +kernel) rfl (lv_at hl 0 rfl) ?_
  refine va_new (ci := 6) (fs := [.int 0, .int 0, .null, .null, .null, .int 0, .long 0, .null, .null, .int 0, .null]) (C := RX6) (T := TX6) (N := 11) hx hb hts2 (fun w hw => gBig_of (guw_6 w hw) (gug_6 w hw)) tyX6 tyX6_ok hown (hts2 _ gwk_18) (hts2 _ gwk_19) (hts2 _ gwk_20) hK hP hD hS hA rfl (fun j hj => by rcases (show j = 0 ∨ j = 1 ∨ j = 2 ∨ j = 3 ∨ j = 4 ∨ j = 5 ∨ j = 6 ∨ j = 7 ∨ j = 8 ∨ j = 9 ∨ j = 10 by omega) with rfl | rfl | rfl | rfl | rfl | rfl | rfl | rfl | rfl | rfl | rfl <;> rfl) (Nat.le_of_ble_eq_true rfl) (Nat.le_of_ble_eq_true rfl) (show decode cX3_init 14 = .ok (.new 15, 3) by decide +kernel) (fun a1 H hP hD hS => ?_)
  refine lv_dup hx hb (show decode cX3_init 17 = .ok (.dup, 1) by decide +kernel) rfl ?_
  have hP : va_P (gD E) vwCl (((h0, .inr (3, [.ref a0, .int 0, .null, .int 0, .int 0, .int 0, .int 0, .int 0, .int 0, .int 0, .int 0, .int 0, .int 0, .int 0])) :: ([(a0, .inl (gca E 3, 700, .inl (fun _ => 0)))]) : va_W) ++ [(a1, .inr (6, [.int 0, .int 0, .null, .null, .null, .int 0, .long 0, .null, .null, .int 0, .null]))]) H := hP
  have hD : va_D A (((h0, .inr (3, [.ref a0, .int 0, .null, .int 0, .int 0, .int 0, .int 0, .int 0, .int 0, .int 0, .int 0, .int 0, .int 0, .int 0])) :: ([(a0, .inl (gca E 3, 700, .inl (fun _ => 0)))]) : va_W) ++ [(a1, .inr (6, [.int 0, .int 0, .null, .null, .null, .int 0, .long 0, .null, .null, .int 0, .null]))]) := hD
  have hPc := gj_P hP
  have hFc := gj_F hD hS hA
  have cw : va_CN (headSpec (Cond.code yX3_init cX3_init 1 none :: gBig) ({ frames := 2, cells := 8, slots := 842, locals := 32 })).room s #[.ref h0] RX3 17 yX6_init "ToeplitzLab" cX6_init 1 none (Cond.code yX6_init cX6_init 1 none :: gBig) ({ frames := 1, cells := 6, slots := 131, locals := 12 }) 6 131 0 := va_cnB 0 hts2 (gGood_code gwk_21) rfl rfl rfl (hNi.1 _ (List.mem_of_getElem? (i := 1) rfl)) (hts2 _ gwk_20) (by decide +kernel) ⟨Nat.le_of_ble_eq_true rfl, Nat.le_of_ble_eq_true rfl⟩
  refine va_callv (va_runIN (Ts := gBig) (As := []) (rest := [.ref a1, .ref h0]) ⟨hx, hb, hml, hown, hts2⟩ (gi_6 l E a1 H.size) ⟨cw, rfl, hts2 _ gwk_22⟩ ⟨fun a U g mk z => gi_bl1 z, fun U hU hW => ⟨rfl, by rw [hU], by rw [hU]; exact hPc, va_K.moved hW.alike hK⟩⟩ rfl rfl hl.1 rfl (lv_room (Nat.le_of_ble_eq_true rfl)) (show decode cX3_init 18 = .ok (.invokespecial 17, 3) by decide +kernel) ⟨Nat.le_of_ble_eq_true rfl, Nat.le_of_ble_eq_true rfl⟩) hS (fun q _ h => hFc q h) hFc (fun f0 t H1 locs ht hvm _ hB hz1 hk1 hS => ?_)
  obtain ⟨hP1, hD1⟩ := hB
  rw [ht] at hP1
  obtain ⟨hP, hD⟩ := gjoin (W0 := ((h0, .inr (3, [.ref a0, .int 0, .null, .int 0, .int 0, .int 0, .int 0, .int 0, .int 0, .int 0, .int 0, .int 0, .int 0, .int 0])) :: ([(a0, .inl (gca E 3, 700, .inl (fun _ => 0)))]) : va_W)) hP hD hFc hk1 hP1 hD1
  clear hPc hFc cw hP1 hD1 ht hvm hz1 hk1
  generalize H1 = H at hP hS ⊢
  have hP : va_P (gD E) vwCl ((h0, .inr (3, [.ref a0, .int 0, .null, .int 0, .int 0, .int 0, .int 0, .int 0, .int 0, .int 0, .int 0, .int 0, .int 0, .int 0])) :: ([(a0, .inl (gca E 3, 700, .inl (fun _ => 0)))] ++ gzw_6 E a1 f0) : va_W) H := hP
  have hD : va_D A ((h0, .inr (3, [.ref a0, .int 0, .null, .int 0, .int 0, .int 0, .int 0, .int 0, .int 0, .int 0, .int 0, .int 0, .int 0, .int 0])) :: ([(a0, .inl (gca E 3, 700, .inl (fun _ => 0)))] ++ gzw_6 E a1 f0) : va_W) := hD
  refine va_putF (D := gD E) (ci := 3) (v := .ref a1) (ty := .object "ToeplitzLab$State") (C := RX3) (T := TX3) (N := 14) hx hb hts2 (fun w hw => gBig_of (guw_3 w hw) (gug_3 w hw)) tyX3 tyX3_ok (by decide +kernel) hown hK hP hD hS 0 rfl rfl 2 (by decide) (hts2 _ gwk_23) (fun _ h9 => h9) rfl hin rfl (by decide +kernel) rfl rfl (Nat.le_of_ble_eq_true rfl) (show decode cX3_init 21 = .ok (.putfield 18, 3) by decide +kernel) (fun H locs hP hD hS => ?_)
  have hP : va_P (gD E) vwCl ((h0, .inr (3, [.ref a0, .int 0, .ref a1, .int 0, .int 0, .int 0, .int 0, .int 0, .int 0, .int 0, .int 0, .int 0, .int 0, .int 0])) :: ([(a0, .inl (gca E 3, 700, .inl (fun _ => 0)))] ++ gzw_6 E a1 f0) : va_W) H := hP
  have hD : va_D A ((h0, .inr (3, [.ref a0, .int 0, .ref a1, .int 0, .int 0, .int 0, .int 0, .int 0, .int 0, .int 0, .int 0, .int 0, .int 0, .int 0])) :: ([(a0, .inl (gca E 3, 700, .inl (fun _ => 0)))] ++ gzw_6 E a1 f0) : va_W) := hD
  exact W.vret hx hb hr (fun t ht hW => ⟨⟨(fun i => match i with | 0 => a0 | 1 => a1 | k + 2 => f0 k), rfl, trivial, by rw [ht]; exact hP, hD⟩, hS.F ht⟩) hS.2.2 (show decode cX3_init 24 = .ok (.return_, 1) by decide +kernel)
def gzw_4 (E : gEn) (h0 : Nat) (u : Nat → Nat) : va_W := ((h0, .inr (4, [.ref (u 0), .ref (u 1)])) :: (gzw_1 E (u 0) (fun k => u (k + 2)) ++ [((u 1), .inl (gca E 0, 7, .inl (fun _ => 0)))]) : va_W)
set_option maxHeartbeats 4000000 in
set_option maxRecDepth 100000 in
theorem gi_4 (l : Launch) (E : gEn) (h0 sz : Nat) : Met l yX4_init (Cond.code yX4_init cX4_init 1 none :: gBig) ({ frames := 2, cells := 10, slots := 118, locals := 32 }) (va_Pc [.ref h0] (fun U => U.heap.size = sz ∧ va_P (gD E) vwCl [(h0, .inr (4, [.null, .null]))] U.heap ∧ va_K (gD E) vwCl (gtys E) U ∧ gNi U)) (va_Qv (fun _ : Nat → Nat => True) (fun u t => va_P (gD E) vwCl (gzw_4 E h0 u) t.heap ∧ va_D (va_A [(h0, .inr (4, [.null, .null]))] sz) (gzw_4 E h0 u)) (va_A [(h0, .inr (4, [.null, .null]))] sz)) 10 118 (va_A [(h0, .inr (4, [.null, .null]))] sz) := by
  refine Met.ofW (cc := cX4_init) (maxL := 1) (ret := none) (by decide) rfl ?_
  intro p e s m args below meth c s₁ B hml hv
  obtain ⟨rfl, hsz, hP, hK, hNi⟩ := hv
  have hx := B.exec
  have hb := B.bytes
  have hr := B.returns
  have hts := atoms_spec (ws := Cond.code yX4_init cX4_init 1 none :: gBig) B.pre
  have hts2 : ∀ w ∈ gBig, w.before #[.ref h0] s = true := fun w hw => hts w (List.mem_cons_of_mem _ hw)
  have hown : s.vm.findClass RX4 = some m.cls := findClass_of_methodNamed B.named
  have hlocks := B.notSynchronized
  have hin : meth.name = "<init>" := (name_of_methodNamed B.named B.method).1
  subst hsz
  have hD : va_D (va_A [(h0, .inr (4, [.null, .null]))] s.heap.size) [(h0, .inr (4, [.null, .null]))] := va_D1 _ _
  generalize hAe : va_A [(h0, .inr (4, [.null, .null]))] s.heap.size = A at hD ⊢
  have hA : ∀ q : Nat, s.heap.size ≤ q → A q := fun q h => by rw [← hAe]; exact Or.inr h
  have hS : va_S A s.heap s.heap [] := va_S.rf
  have hl := lv_entry ([.ref h0]) (n := 1) (Nat.le_of_ble_eq_true rfl)
  rw [lg_entry_eq]
  generalize (lg_sl ([.ref h0]) ++ List.replicate (1 - (lg_sl ([.ref h0])).length) Slot.unset).toArray = ls at hl ⊢
  have hl : lv_has ls 1 [(0, .ref h0)] := hl
  refine lv_aload_n hx hb (show decode cX4_init 0 = .ok (.aload_n 0, 1) by decide +kernel) rfl (lv_at hl 0 rfl) ?_
  refine W.objInit hx hb hown (hts2 _ gwk_24) (hts2 _ gwi_1) (hts2 _ gwi_2) rfl (by rw [hml]; exact hl.1) rfl (show decode cX4_init 1 = .ok (.invokespecial 3, 3) by decide +kernel) (Nat.le_of_ble_eq_true rfl) (Nat.le_of_ble_eq_true rfl) ?_
  refine W.eq (g2 := F0 m 4 ls []) rfl ?_
  refine lv_aload_n hx hb (show decode cX4_init 4 = .ok (.aload_n 0, 1) by decide +kernel) rfl (lv_at hl 0 rfl) ?_
  refine va_new (ci := 1) (fs := [.null, .int 0, .int 0, .int 0, .int 0, .int 0]) (C := RX1) (T := TX1) (N := 6) hx hb hts2 (fun w hw => gBig_of (guw_1 w hw) (gug_1 w hw)) tyX1 tyX1_ok hown (hts2 _ gwk_25) (hts2 _ gwk_26) (hts2 _ gwk_27) hK hP hD hS hA rfl (fun j hj => by rcases (show j = 0 ∨ j = 1 ∨ j = 2 ∨ j = 3 ∨ j = 4 ∨ j = 5 by omega) with rfl | rfl | rfl | rfl | rfl | rfl <;> rfl) (Nat.le_of_ble_eq_true rfl) (Nat.le_of_ble_eq_true rfl) (show decode cX4_init 5 = .ok (.new 9, 3) by decide +kernel) (fun a0 H hP hD hS => ?_)
  refine lv_dup hx hb (show decode cX4_init 8 = .ok (.dup, 1) by decide +kernel) rfl ?_
  have hP : va_P (gD E) vwCl (((h0, .inr (4, [.null, .null])) :: ([]) : va_W) ++ [(a0, .inr (1, [.null, .int 0, .int 0, .int 0, .int 0, .int 0]))]) H := hP
  have hD : va_D A (((h0, .inr (4, [.null, .null])) :: ([]) : va_W) ++ [(a0, .inr (1, [.null, .int 0, .int 0, .int 0, .int 0, .int 0]))]) := hD
  have hPc := gj_P hP
  have hFc := gj_F hD hS hA
  have cw : va_CN (headSpec (Cond.code yX4_init cX4_init 1 none :: gBig) ({ frames := 2, cells := 10, slots := 118, locals := 32 })).room s #[.ref h0] RX4 11 yX1_init "ToeplitzLab" cX1_init 1 none (Cond.code yX1_init cX1_init 1 none :: gBig) ({ frames := 1, cells := 8, slots := 105, locals := 12 }) 8 105 0 := va_cnB 0 hts2 (gGood_code gwk_28) rfl rfl rfl (hNi.1 _ (List.mem_of_getElem? (i := 8) rfl)) (hts2 _ gwk_27) (by decide +kernel) ⟨Nat.le_of_ble_eq_true rfl, Nat.le_of_ble_eq_true rfl⟩
  refine va_callv (va_runIN (Ts := gBig) (As := []) (rest := [.ref a0, .ref h0]) ⟨hx, hb, hml, hown, hts2⟩ (gi_1 l E a0 H.size) ⟨cw, rfl, hts2 _ gwk_29⟩ ⟨fun a U g mk z => gi_bl2 z, fun U hU hW => ⟨rfl, by rw [hU], by rw [hU]; exact hPc, ⟨va_K.moved hW.alike hK, hNi.warm hW⟩⟩⟩ rfl rfl hl.1 rfl (lv_room (Nat.le_of_ble_eq_true rfl)) (show decode cX4_init 9 = .ok (.invokespecial 11, 3) by decide +kernel) ⟨Nat.le_of_ble_eq_true rfl, Nat.le_of_ble_eq_true rfl⟩) hS (fun q _ h => hFc q h) hFc (fun f0 t H1 locs ht hvm _ hB hz1 hk1 hS => ?_)
  obtain ⟨hP1, hD1⟩ := hB
  rw [ht] at hP1
  obtain ⟨hP, hD⟩ := gjoin (W0 := ((h0, .inr (4, [.null, .null])) :: ([]) : va_W)) hP hD hFc hk1 hP1 hD1
  clear hPc hFc cw hP1 hD1 ht hvm hz1 hk1
  generalize H1 = H at hP hS ⊢
  have hP : va_P (gD E) vwCl ((h0, .inr (4, [.null, .null])) :: (gzw_1 E a0 f0) : va_W) H := hP
  have hD : va_D A ((h0, .inr (4, [.null, .null])) :: (gzw_1 E a0 f0) : va_W) := hD
  refine va_putF (D := gD E) (ci := 4) (v := .ref a0) (ty := .object "ToeplitzLab$Grid") (C := RX4) (T := TX4) (N := 2) hx hb hts2 (fun w hw => gBig_of (guw_4 w hw) (gug_4 w hw)) tyX4 tyX4_ok (by decide +kernel) hown hK hP hD hS 0 rfl rfl 0 (by decide) (hts2 _ gwk_30) (fun _ h9 => h9) rfl hin rfl (by decide +kernel) rfl rfl (Nat.le_of_ble_eq_true rfl) (show decode cX4_init 12 = .ok (.putfield 12, 3) by decide +kernel) (fun H locs hP hD hS => ?_)
  have hP : va_P (gD E) vwCl ((h0, .inr (4, [.ref a0, .null])) :: (gzw_1 E a0 f0) : va_W) H := hP
  have hD : va_D A ((h0, .inr (4, [.ref a0, .null])) :: (gzw_1 E a0 f0) : va_W) := hD
  refine lv_aload_n hx hb (show decode cX4_init 15 = .ok (.aload_n 0, 1) by decide +kernel) rfl (lv_at hl 0 rfl) ?_
  refine lv_bipush (v := 7) hx hb (show decode cX4_init 16 = .ok (.bipush 7, 2) by decide +kernel) (by decide) ?_
  refine va_newa (atype := .int) (ty := .int) (a0 := (7, .inl (fun _ => 0))) (N' := 7) hx hb (hts2 _ gwk_6) rfl hK hP hD hS hA (fun _ => rfl) (by decide) rfl (Nat.le_of_ble_eq_true rfl) (Nat.le_of_ble_eq_true rfl) (Nat.le_of_ble_eq_true rfl) (show decode cX4_init 18 = .ok (.newarray .int, 2) by decide +kernel) (fun a1 cA H hK2 hP hD hS => ?_)
  have hcA : cA = gca E 0 := gca_eq hK2 0 rfl rfl
  subst hcA
  clear hK2
  have hP : va_P (gD E) vwCl ((h0, .inr (4, [.ref a0, .null])) :: (gzw_1 E a0 f0 ++ [(a1, .inl (gca E 0, 7, .inl (fun _ => 0)))]) : va_W) H := hP
  have hD : va_D A ((h0, .inr (4, [.ref a0, .null])) :: (gzw_1 E a0 f0 ++ [(a1, .inl (gca E 0, 7, .inl (fun _ => 0)))]) : va_W) := hD
  refine va_putF (D := gD E) (ci := 4) (v := .ref a1) (ty := .array .int) (C := RX4) (T := TX4) (N := 2) hx hb hts2 (fun w hw => gBig_of (guw_4 w hw) (gug_4 w hw)) tyX4 tyX4_ok (by decide +kernel) hown hK hP hD hS 0 rfl rfl 1 (by decide) (hts2 _ gwk_31) (fun _ h9 => h9) rfl hin rfl (by decide +kernel) rfl rfl (Nat.le_of_ble_eq_true rfl) (show decode cX4_init 20 = .ok (.putfield 18, 3) by decide +kernel) (fun H locs hP hD hS => ?_)
  have hP : va_P (gD E) vwCl ((h0, .inr (4, [.ref a0, .ref a1])) :: (gzw_1 E a0 f0 ++ [(a1, .inl (gca E 0, 7, .inl (fun _ => 0)))]) : va_W) H := hP
  have hD : va_D A ((h0, .inr (4, [.ref a0, .ref a1])) :: (gzw_1 E a0 f0 ++ [(a1, .inl (gca E 0, 7, .inl (fun _ => 0)))]) : va_W) := hD
  exact W.vret hx hb hr (fun t ht hW => ⟨⟨(fun i => match i with | 0 => a0 | 1 => a1 | k + 2 => f0 k), rfl, trivial, by rw [ht]; exact hP, hD⟩, hS.F ht⟩) hS.2.2 (show decode cX4_init 23 = .ok (.return_, 1) by decide +kernel)
