/-! constructors 1 -/
def gzw_0 (E : gEn) (h0 : Nat) (u : Nat → Nat) : va_W := ((h0, .inr (0, [.ref (u 0), .ref (u 1)])) :: ([((u 0), .inl (gca E 1, 7, .inr (.inl (fun _ => 0))))] ++ [((u 1), .inl (gca E 1, 7, .inr (.inl (fun _ => 0))))]) : va_W)
set_option maxHeartbeats 4000000 in
set_option maxRecDepth 100000 in
theorem gi_0 (l : Launch) (E : gEn) (h0 sz : Nat) : Met l yX0_init (Cond.code yX0_init cX0_init 1 none :: gBig) ({ frames := 1, cells := 2, slots := 14, locals := 12 }) (va_Pc [.ref h0] (fun U => U.heap.size = sz ∧ va_P (gD E) vwCl [(h0, .inr (0, [.null, .null]))] U.heap ∧ va_K (gD E) vwCl (gtys E) U)) (va_Qv (fun _ : Nat → Nat => True) (fun u t => va_P (gD E) vwCl (gzw_0 E h0 u) t.heap ∧ va_D (va_A [(h0, .inr (0, [.null, .null]))] sz) (gzw_0 E h0 u)) (va_A [(h0, .inr (0, [.null, .null]))] sz)) 2 14 (va_A [(h0, .inr (0, [.null, .null]))] sz) := by
  refine Met.ofW (cc := cX0_init) (maxL := 1) (ret := none) (by decide) rfl ?_
  intro p e s m args below meth c s₁ B hml hv
  obtain ⟨rfl, hsz, hP, hK⟩ := hv
  have hx := B.exec
  have hb := B.bytes
  have hr := B.returns
  have hts := atoms_spec (ws := Cond.code yX0_init cX0_init 1 none :: gBig) B.pre
  have hts2 : ∀ w ∈ gBig, w.before #[.ref h0] s = true := fun w hw => hts w (List.mem_cons_of_mem _ hw)
  have hown : s.vm.findClass RX0 = some m.cls := findClass_of_methodNamed B.named
  have hlocks := B.notSynchronized
  have hin : meth.name = "<init>" := (name_of_methodNamed B.named B.method).1
  subst hsz
  have hD : va_D (va_A [(h0, .inr (0, [.null, .null]))] s.heap.size) [(h0, .inr (0, [.null, .null]))] := va_D1 _ _
  generalize hAe : va_A [(h0, .inr (0, [.null, .null]))] s.heap.size = A at hD ⊢
  have hA : ∀ q : Nat, s.heap.size ≤ q → A q := fun q h => by rw [← hAe]; exact Or.inr h
  have hS : va_S A s.heap s.heap [] := va_S.rf
  have hl := lv_entry ([.ref h0]) (n := 1) (Nat.le_of_ble_eq_true rfl)
  rw [lg_entry_eq]
  generalize (lg_sl ([.ref h0]) ++ List.replicate (1 - (lg_sl ([.ref h0])).length) Slot.unset).toArray = ls at hl ⊢
  have hl : lv_has ls 1 [(0, .ref h0)] := hl
  refine lv_aload_n hx hb (show decode cX0_init 0 = .ok (.aload_n 0, 1) by decide +kernel) rfl (lv_at hl 0 rfl) ?_
  refine W.objInit hx hb hown (hts2 _ gwk_0) (hts2 _ gwi_1) (hts2 _ gwi_2) rfl (by rw [hml]; exact hl.1) rfl (show decode cX0_init 1 = .ok (.invokespecial 3, 3) by decide +kernel) (Nat.le_of_ble_eq_true rfl) (Nat.le_of_ble_eq_true rfl) ?_
  refine W.eq (g2 := F0 m 4 ls []) rfl ?_
  refine lv_aload_n hx hb (show decode cX0_init 4 = .ok (.aload_n 0, 1) by decide +kernel) rfl (lv_at hl 0 rfl) ?_
  refine lv_bipush (v := 7) hx hb (show decode cX0_init 5 = .ok (.bipush 7, 2) by decide +kernel) (by decide) ?_
  refine va_newa (atype := .long) (ty := .long) (a0 := (7, .inr (.inl (fun _ => 0)))) (N' := 7) hx hb (hts2 _ gwk_1) rfl hK hP hD hS hA (fun _ => rfl) (by decide) rfl (Nat.le_of_ble_eq_true rfl) (Nat.le_of_ble_eq_true rfl) (Nat.le_of_ble_eq_true rfl) (show decode cX0_init 7 = .ok (.newarray .long, 2) by decide +kernel) (fun a0 cA H hK2 hP hD hS => ?_)
  have hcA : cA = gca E 1 := gca_eq hK2 1 rfl rfl
  subst hcA
  clear hK2
  have hP : va_P (gD E) vwCl ((h0, .inr (0, [.null, .null])) :: ([(a0, .inl (gca E 1, 7, .inr (.inl (fun _ => 0))))]) : va_W) H := hP
  have hD : va_D A ((h0, .inr (0, [.null, .null])) :: ([(a0, .inl (gca E 1, 7, .inr (.inl (fun _ => 0))))]) : va_W) := hD
  refine va_putF (D := gD E) (ci := 0) (v := .ref a0) (ty := .array .long) (C := RX0) (T := TX0) (N := 2) hx hb hts2 (fun w hw => gBig_of (guw_0 w hw) (gug_0 w hw)) tyX0 tyX0_ok (by decide +kernel) hown hK hP hD hS 0 rfl rfl 0 (by decide) (hts2 _ gwk_2) (fun _ h9 => h9) rfl hin rfl (by decide +kernel) rfl rfl (Nat.le_of_ble_eq_true rfl) (show decode cX0_init 9 = .ok (.putfield 9, 3) by decide +kernel) (fun H locs hP hD hS => ?_)
  have hP : va_P (gD E) vwCl ((h0, .inr (0, [.ref a0, .null])) :: ([(a0, .inl (gca E 1, 7, .inr (.inl (fun _ => 0))))]) : va_W) H := hP
  have hD : va_D A ((h0, .inr (0, [.ref a0, .null])) :: ([(a0, .inl (gca E 1, 7, .inr (.inl (fun _ => 0))))]) : va_W) := hD
  refine lv_aload_n hx hb (show decode cX0_init 12 = .ok (.aload_n 0, 1) by decide +kernel) rfl (lv_at hl 0 rfl) ?_
  refine lv_bipush (v := 7) hx hb (show decode cX0_init 13 = .ok (.bipush 7, 2) by decide +kernel) (by decide) ?_
  refine va_newa (atype := .long) (ty := .long) (a0 := (7, .inr (.inl (fun _ => 0)))) (N' := 7) hx hb (hts2 _ gwk_1) rfl hK hP hD hS hA (fun _ => rfl) (by decide) rfl (Nat.le_of_ble_eq_true rfl) (Nat.le_of_ble_eq_true rfl) (Nat.le_of_ble_eq_true rfl) (show decode cX0_init 15 = .ok (.newarray .long, 2) by decide +kernel) (fun a1 cA H hK2 hP hD hS => ?_)
  have hcA : cA = gca E 1 := gca_eq hK2 1 rfl rfl
  subst hcA
  clear hK2
  have hP : va_P (gD E) vwCl ((h0, .inr (0, [.ref a0, .null])) :: ([(a0, .inl (gca E 1, 7, .inr (.inl (fun _ => 0))))] ++ [(a1, .inl (gca E 1, 7, .inr (.inl (fun _ => 0))))]) : va_W) H := hP
  have hD : va_D A ((h0, .inr (0, [.ref a0, .null])) :: ([(a0, .inl (gca E 1, 7, .inr (.inl (fun _ => 0))))] ++ [(a1, .inl (gca E 1, 7, .inr (.inl (fun _ => 0))))]) : va_W) := hD
  refine va_putF (D := gD E) (ci := 0) (v := .ref a1) (ty := .array .long) (C := RX0) (T := TX0) (N := 2) hx hb hts2 (fun w hw => gBig_of (guw_0 w hw) (gug_0 w hw)) tyX0 tyX0_ok (by decide +kernel) hown hK hP hD hS 0 rfl rfl 1 (by decide) (hts2 _ gwk_3) (fun _ h9 => h9) rfl hin rfl (by decide +kernel) rfl rfl (Nat.le_of_ble_eq_true rfl) (show decode cX0_init 17 = .ok (.putfield 15, 3) by decide +kernel) (fun H locs hP hD hS => ?_)
  have hP : va_P (gD E) vwCl ((h0, .inr (0, [.ref a0, .ref a1])) :: ([(a0, .inl (gca E 1, 7, .inr (.inl (fun _ => 0))))] ++ [(a1, .inl (gca E 1, 7, .inr (.inl (fun _ => 0))))]) : va_W) H := hP
  have hD : va_D A ((h0, .inr (0, [.ref a0, .ref a1])) :: ([(a0, .inl (gca E 1, 7, .inr (.inl (fun _ => 0))))] ++ [(a1, .inl (gca E 1, 7, .inr (.inl (fun _ => 0))))]) : va_W) := hD
  exact W.vret hx hb hr (fun t ht hW => ⟨⟨(fun i => match i with | 0 => a0 | 1 => a1 | _ => 0), rfl, trivial, by rw [ht]; exact hP, hD⟩, hS.F ht⟩) hS.2.2 (show decode cX0_init 20 = .ok (.return_, 1) by decide +kernel)
def gzw_1 (E : gEn) (h0 : Nat) (u : Nat → Nat) : va_W := ((h0, .inr (1, [.ref (u 0), .int 0, .int 0, .int 0, .int 0, .int 0])) :: (gmul E (u 0) 7 14) : va_W)
set_option maxHeartbeats 4000000 in
set_option maxRecDepth 100000 in
theorem gi_1 (l : Launch) (E : gEn) (h0 sz : Nat) : Met l yX1_init (Cond.code yX1_init cX1_init 1 none :: gBig) ({ frames := 1, cells := 8, slots := 105, locals := 12 }) (va_Pc [.ref h0] (fun U => U.heap.size = sz ∧ va_P (gD E) vwCl [(h0, .inr (1, [.null, .int 0, .int 0, .int 0, .int 0, .int 0]))] U.heap ∧ va_K (gD E) vwCl (gtys E) U ∧ gNi U)) (va_Qv (fun _ : Nat → Nat => True) (fun u t => va_P (gD E) vwCl (gzw_1 E h0 u) t.heap ∧ va_D (va_A [(h0, .inr (1, [.null, .int 0, .int 0, .int 0, .int 0, .int 0]))] sz) (gzw_1 E h0 u)) (va_A [(h0, .inr (1, [.null, .int 0, .int 0, .int 0, .int 0, .int 0]))] sz)) 8 105 (va_A [(h0, .inr (1, [.null, .int 0, .int 0, .int 0, .int 0, .int 0]))] sz) := by
  refine Met.ofW (cc := cX1_init) (maxL := 1) (ret := none) (by decide) rfl ?_
  intro p e s m args below meth c s₁ B hml hv
  obtain ⟨rfl, hsz, hP, hK, hNi⟩ := hv
  have hx := B.exec
  have hb := B.bytes
  have hr := B.returns
  have hts := atoms_spec (ws := Cond.code yX1_init cX1_init 1 none :: gBig) B.pre
  have hts2 : ∀ w ∈ gBig, w.before #[.ref h0] s = true := fun w hw => hts w (List.mem_cons_of_mem _ hw)
  have hown : s.vm.findClass RX1 = some m.cls := findClass_of_methodNamed B.named
  have hlocks := B.notSynchronized
  have hin : meth.name = "<init>" := (name_of_methodNamed B.named B.method).1
  subst hsz
  have hD : va_D (va_A [(h0, .inr (1, [.null, .int 0, .int 0, .int 0, .int 0, .int 0]))] s.heap.size) [(h0, .inr (1, [.null, .int 0, .int 0, .int 0, .int 0, .int 0]))] := va_D1 _ _
  generalize hAe : va_A [(h0, .inr (1, [.null, .int 0, .int 0, .int 0, .int 0, .int 0]))] s.heap.size = A at hD ⊢
  have hA : ∀ q : Nat, s.heap.size ≤ q → A q := fun q h => by rw [← hAe]; exact Or.inr h
  have hS : va_S A s.heap s.heap [] := va_S.rf
  have hl := lv_entry ([.ref h0]) (n := 1) (Nat.le_of_ble_eq_true rfl)
  rw [lg_entry_eq]
  generalize (lg_sl ([.ref h0]) ++ List.replicate (1 - (lg_sl ([.ref h0])).length) Slot.unset).toArray = ls at hl ⊢
  have hl : lv_has ls 1 [(0, .ref h0)] := hl
  refine lv_aload_n hx hb (show decode cX1_init 0 = .ok (.aload_n 0, 1) by decide +kernel) rfl (lv_at hl 0 rfl) ?_
  refine W.objInit hx hb hown (hts2 _ gwk_4) (hts2 _ gwi_1) (hts2 _ gwi_2) rfl (by rw [hml]; exact hl.1) rfl (show decode cX1_init 1 = .ok (.invokespecial 3, 3) by decide +kernel) (Nat.le_of_ble_eq_true rfl) (Nat.le_of_ble_eq_true rfl) ?_
  refine W.eq (g2 := F0 m 4 ls []) rfl ?_
  refine lv_aload_n hx hb (show decode cX1_init 4 = .ok (.aload_n 0, 1) by decide +kernel) rfl (lv_at hl 0 rfl) ?_
  refine lv_bipush (v := 7) hx hb (show decode cX1_init 5 = .ok (.bipush 7, 2) by decide +kernel) (by decide) ?_
  refine lv_bipush (v := 14) hx hb (show decode cX1_init 7 = .ok (.bipush 14, 2) by decide +kernel) (by decide) ?_
  refine va_mnaQ (N' := 7) (K' := 14) (ty := .int) (cy := gca E 0) hx hb hown (hts2 _ gwk_5) hNi.2.2 (hts2 _ gwk_6) ((hK.2 0 (gca E 0, .int) rfl).2) hK hP hD hS hA (by decide) (by decide) rfl rfl (Nat.le_of_ble_eq_true rfl) (Nat.le_of_ble_eq_true rfl) (Nat.le_of_ble_eq_true rfl) rfl rfl (Nat.le_of_ble_eq_true rfl) (Nat.le_of_ble_eq_true rfl) (z := (14, .inl (fun _ => 0))) (fun c => arrV_new c 14 (.int 0)) (show decode cX1_init 9 = .ok (.multianewarray 9 2, 4) by decide +kernel) (fun a0 cA H hK2 hP hD hS => ?_)
  have hcA : cA = gca E 5 := gca_eq hK2 5 rfl rfl
  subst hcA
  clear hK2
  have hP : va_P (gD E) vwCl ((h0, .inr (1, [.null, .int 0, .int 0, .int 0, .int 0, .int 0])) :: (gmul E a0 7 14) : va_W) H := hP
  have hD : va_D A ((h0, .inr (1, [.null, .int 0, .int 0, .int 0, .int 0, .int 0])) :: (gmul E a0 7 14) : va_W) := hD
  refine va_putF (D := gD E) (ci := 1) (v := .ref a0) (ty := .array (.array .int)) (C := RX1) (T := TX1) (N := 6) hx hb hts2 (fun w hw => gBig_of (guw_1 w hw) (gug_1 w hw)) tyX1 tyX1_ok (by decide +kernel) hown hK hP hD hS 0 rfl rfl 0 (by decide) (hts2 _ gwk_7) (fun _ h9 => h9) rfl hin rfl (by decide +kernel) rfl rfl (Nat.le_of_ble_eq_true rfl) (show decode cX1_init 13 = .ok (.putfield 11, 3) by decide +kernel) (fun H locs hP hD hS => ?_)
  have hP : va_P (gD E) vwCl ((h0, .inr (1, [.ref a0, .int 0, .int 0, .int 0, .int 0, .int 0])) :: (gmul E a0 7 14) : va_W) H := hP
  have hD : va_D A ((h0, .inr (1, [.ref a0, .int 0, .int 0, .int 0, .int 0, .int 0])) :: (gmul E a0 7 14) : va_W) := hD
  exact W.vret hx hb hr (fun t ht hW => ⟨⟨(fun i => match i with | 0 => a0 | _ => 0), rfl, trivial, by rw [ht]; exact hP, hD⟩, hS.F ht⟩) hS.2.2 (show decode cX1_init 16 = .ok (.return_, 1) by decide +kernel)
def gzw_2 (E : gEn) (h0 : Nat) (u : Nat → Nat) : va_W := ((h0, .inr (2, [.ref (u 0), .int 0, .int 0])) :: ([((u 0), .inl (gca E 6, 8, .inr (.inr (.inr (.inr (fun _ => none))))))]) : va_W)
set_option maxHeartbeats 4000000 in
set_option maxRecDepth 100000 in
theorem gi_2 (l : Launch) (E : gEn) (h0 sz : Nat) : Met l yX2_init (Cond.code yX2_init cX2_init 1 none :: gBig) ({ frames := 1, cells := 1, slots := 8, locals := 12 }) (va_Pc [.ref h0] (fun U => U.heap.size = sz ∧ va_P (gD E) vwCl [(h0, .inr (2, [.null, .int 0, .int 0]))] U.heap ∧ va_K (gD E) vwCl (gtys E) U ∧ gNi U)) (va_Qv (fun _ : Nat → Nat => True) (fun u t => va_P (gD E) vwCl (gzw_2 E h0 u) t.heap ∧ va_D (va_A [(h0, .inr (2, [.null, .int 0, .int 0]))] sz) (gzw_2 E h0 u)) (va_A [(h0, .inr (2, [.null, .int 0, .int 0]))] sz)) 1 8 (va_A [(h0, .inr (2, [.null, .int 0, .int 0]))] sz) := by
  refine Met.ofW (cc := cX2_init) (maxL := 1) (ret := none) (by decide) rfl ?_
  intro p e s m args below meth c s₁ B hml hv
  obtain ⟨rfl, hsz, hP, hK, hNi⟩ := hv
  have hx := B.exec
  have hb := B.bytes
  have hr := B.returns
  have hts := atoms_spec (ws := Cond.code yX2_init cX2_init 1 none :: gBig) B.pre
  have hts2 : ∀ w ∈ gBig, w.before #[.ref h0] s = true := fun w hw => hts w (List.mem_cons_of_mem _ hw)
  have hown : s.vm.findClass RX2 = some m.cls := findClass_of_methodNamed B.named
  have hlocks := B.notSynchronized
  have hin : meth.name = "<init>" := (name_of_methodNamed B.named B.method).1
  subst hsz
  have hD : va_D (va_A [(h0, .inr (2, [.null, .int 0, .int 0]))] s.heap.size) [(h0, .inr (2, [.null, .int 0, .int 0]))] := va_D1 _ _
  generalize hAe : va_A [(h0, .inr (2, [.null, .int 0, .int 0]))] s.heap.size = A at hD ⊢
  have hA : ∀ q : Nat, s.heap.size ≤ q → A q := fun q h => by rw [← hAe]; exact Or.inr h
  have hS : va_S A s.heap s.heap [] := va_S.rf
  have hl := lv_entry ([.ref h0]) (n := 1) (Nat.le_of_ble_eq_true rfl)
  rw [lg_entry_eq]
  generalize (lg_sl ([.ref h0]) ++ List.replicate (1 - (lg_sl ([.ref h0])).length) Slot.unset).toArray = ls at hl ⊢
  have hl : lv_has ls 1 [(0, .ref h0)] := hl
  refine lv_aload_n hx hb (show decode cX2_init 0 = .ok (.aload_n 0, 1) by decide +kernel) rfl (lv_at hl 0 rfl) ?_
  refine W.objInit hx hb hown (hts2 _ gwk_8) (hts2 _ gwi_1) (hts2 _ gwi_2) rfl (by rw [hml]; exact hl.1) rfl (show decode cX2_init 1 = .ok (.invokespecial 3, 3) by decide +kernel) (Nat.le_of_ble_eq_true rfl) (Nat.le_of_ble_eq_true rfl) ?_
  refine W.eq (g2 := F0 m 4 ls []) rfl ?_
  refine lv_aload_n hx hb (show decode cX2_init 4 = .ok (.aload_n 0, 1) by decide +kernel) rfl (lv_at hl 0 rfl) ?_
  refine lv_bipush (v := 8) hx hb (show decode cX2_init 5 = .ok (.bipush 8, 2) by decide +kernel) (by decide) ?_
  refine va_newq (C := "ToeplitzLab$State") (N' := 8) hx hb hown (hts2 _ gwk_9) hNi.2.1 hK hP hD hS hA (by decide) rfl (Nat.le_of_ble_eq_true rfl) (Nat.le_of_ble_eq_true rfl) (Nat.le_of_ble_eq_true rfl) (show decode cX2_init 7 = .ok (.anewarray 9, 3) by decide +kernel) (fun a0 cA H hK2 hP hD hS => ?_)
  have hcA : cA = gca E 6 := gca_eqO hK2
  subst hcA
  clear hK2
  have hP : va_P (gD E) vwCl ((h0, .inr (2, [.null, .int 0, .int 0])) :: ([(a0, .inl (gca E 6, 8, .inr (.inr (.inr (.inr (fun _ => none))))))]) : va_W) H := hP
  have hD : va_D A ((h0, .inr (2, [.null, .int 0, .int 0])) :: ([(a0, .inl (gca E 6, 8, .inr (.inr (.inr (.inr (fun _ => none))))))]) : va_W) := hD
  refine va_putF (D := gD E) (ci := 2) (v := .ref a0) (ty := .array (.object "ToeplitzLab$State")) (C := RX2) (T := TX2) (N := 3) hx hb hts2 (fun w hw => gBig_of (guw_2 w hw) (gug_2 w hw)) tyX2 tyX2_ok (by decide +kernel) hown hK hP hD hS 0 rfl rfl 0 (by decide) (hts2 _ gwk_10) (fun _ h9 => h9) rfl hin rfl (by decide +kernel) rfl rfl (Nat.le_of_ble_eq_true rfl) (show decode cX2_init 10 = .ok (.putfield 11, 3) by decide +kernel) (fun H locs hP hD hS => ?_)
  have hP : va_P (gD E) vwCl ((h0, .inr (2, [.ref a0, .int 0, .int 0])) :: ([(a0, .inl (gca E 6, 8, .inr (.inr (.inr (.inr (fun _ => none))))))]) : va_W) H := hP
  have hD : va_D A ((h0, .inr (2, [.ref a0, .int 0, .int 0])) :: ([(a0, .inl (gca E 6, 8, .inr (.inr (.inr (.inr (fun _ => none))))))]) : va_W) := hD
  exact W.vret hx hb hr (fun t ht hW => ⟨⟨(fun i => match i with | 0 => a0 | _ => 0), rfl, trivial, by rw [ht]; exact hP, hD⟩, hS.F ht⟩) hS.2.2 (show decode cX2_init 13 = .ok (.return_, 1) by decide +kernel)
def gzw_5 (E : gEn) (h0 : Nat) (u : Nat → Nat) : va_W := ((h0, .inr (5, [.ref (u 0), .ref (u 1)])) :: (gmul E (u 0) 7 7 ++ gmul E (u 1) 7 7) : va_W)
set_option maxHeartbeats 4000000 in
set_option maxRecDepth 100000 in
theorem gi_5 (l : Launch) (E : gEn) (h0 sz : Nat) : Met l yX5_init (Cond.code yX5_init cX5_init 1 none :: gBig) ({ frames := 1, cells := 16, slots := 112, locals := 12 }) (va_Pc [.ref h0] (fun U => U.heap.size = sz ∧ va_P (gD E) vwCl [(h0, .inr (5, [.null, .null]))] U.heap ∧ va_K (gD E) vwCl (gtys E) U ∧ gNi U)) (va_Qv (fun _ : Nat → Nat => True) (fun u t => va_P (gD E) vwCl (gzw_5 E h0 u) t.heap ∧ va_D (va_A [(h0, .inr (5, [.null, .null]))] sz) (gzw_5 E h0 u)) (va_A [(h0, .inr (5, [.null, .null]))] sz)) 16 112 (va_A [(h0, .inr (5, [.null, .null]))] sz) := by
  refine Met.ofW (cc := cX5_init) (maxL := 1) (ret := none) (by decide) rfl ?_
  intro p e s m args below meth c s₁ B hml hv
  obtain ⟨rfl, hsz, hP, hK, hNi⟩ := hv
  have hx := B.exec
  have hb := B.bytes
  have hr := B.returns
  have hts := atoms_spec (ws := Cond.code yX5_init cX5_init 1 none :: gBig) B.pre
  have hts2 : ∀ w ∈ gBig, w.before #[.ref h0] s = true := fun w hw => hts w (List.mem_cons_of_mem _ hw)
  have hown : s.vm.findClass RX5 = some m.cls := findClass_of_methodNamed B.named
  have hlocks := B.notSynchronized
  have hin : meth.name = "<init>" := (name_of_methodNamed B.named B.method).1
  subst hsz
  have hD : va_D (va_A [(h0, .inr (5, [.null, .null]))] s.heap.size) [(h0, .inr (5, [.null, .null]))] := va_D1 _ _
  generalize hAe : va_A [(h0, .inr (5, [.null, .null]))] s.heap.size = A at hD ⊢
  have hA : ∀ q : Nat, s.heap.size ≤ q → A q := fun q h => by rw [← hAe]; exact Or.inr h
  have hS : va_S A s.heap s.heap [] := va_S.rf
  have hl := lv_entry ([.ref h0]) (n := 1) (Nat.le_of_ble_eq_true rfl)
  rw [lg_entry_eq]
  generalize (lg_sl ([.ref h0]) ++ List.replicate (1 - (lg_sl ([.ref h0])).length) Slot.unset).toArray = ls at hl ⊢
  have hl : lv_has ls 1 [(0, .ref h0)] := hl
  refine lv_aload_n hx hb (show decode cX5_init 0 = .ok (.aload_n 0, 1) by decide +kernel) rfl (lv_at hl 0 rfl) ?_
  refine W.objInit hx hb hown (hts2 _ gwk_11) (hts2 _ gwi_1) (hts2 _ gwi_2) rfl (by rw [hml]; exact hl.1) rfl (show decode cX5_init 1 = .ok (.invokespecial 3, 3) by decide +kernel) (Nat.le_of_ble_eq_true rfl) (Nat.le_of_ble_eq_true rfl) ?_
  refine W.eq (g2 := F0 m 4 ls []) rfl ?_
  refine lv_aload_n hx hb (show decode cX5_init 4 = .ok (.aload_n 0, 1) by decide +kernel) rfl (lv_at hl 0 rfl) ?_
  refine lv_bipush (v := 7) hx hb (show decode cX5_init 5 = .ok (.bipush 7, 2) by decide +kernel) (by decide) ?_
  refine lv_bipush (v := 7) hx hb (show decode cX5_init 7 = .ok (.bipush 7, 2) by decide +kernel) (by decide) ?_
  refine va_mnaQ (N' := 7) (K' := 7) (ty := .int) (cy := gca E 0) hx hb hown (hts2 _ gwk_12) hNi.2.2 (hts2 _ gwk_6) ((hK.2 0 (gca E 0, .int) rfl).2) hK hP hD hS hA (by decide) (by decide) rfl rfl (Nat.le_of_ble_eq_true rfl) (Nat.le_of_ble_eq_true rfl) (Nat.le_of_ble_eq_true rfl) rfl rfl (Nat.le_of_ble_eq_true rfl) (Nat.le_of_ble_eq_true rfl) (z := (7, .inl (fun _ => 0))) (fun c => arrV_new c 7 (.int 0)) (show decode cX5_init 9 = .ok (.multianewarray 9 2, 4) by decide +kernel) (fun a0 cA H hK2 hP hD hS => ?_)
  have hcA : cA = gca E 5 := gca_eq hK2 5 rfl rfl
  subst hcA
  clear hK2
  have hP : va_P (gD E) vwCl ((h0, .inr (5, [.null, .null])) :: (gmul E a0 7 7) : va_W) H := hP
  have hD : va_D A ((h0, .inr (5, [.null, .null])) :: (gmul E a0 7 7) : va_W) := hD
  refine va_putF (D := gD E) (ci := 5) (v := .ref a0) (ty := .array (.array .int)) (C := RX5) (T := TX5) (N := 2) hx hb hts2 (fun w hw => gBig_of (guw_5 w hw) (gug_5 w hw)) tyX5 tyX5_ok (by decide +kernel) hown hK hP hD hS 0 rfl rfl 0 (by decide) (hts2 _ gwk_13) (fun _ h9 => h9) rfl hin rfl (by decide +kernel) rfl rfl (Nat.le_of_ble_eq_true rfl) (show decode cX5_init 13 = .ok (.putfield 11, 3) by decide +kernel) (fun H locs hP hD hS => ?_)
  have hP : va_P (gD E) vwCl ((h0, .inr (5, [.ref a0, .null])) :: (gmul E a0 7 7) : va_W) H := hP
  have hD : va_D A ((h0, .inr (5, [.ref a0, .null])) :: (gmul E a0 7 7) : va_W) := hD
  refine lv_aload_n hx hb (show decode cX5_init 16 = .ok (.aload_n 0, 1) by decide +kernel) rfl (lv_at hl 0 rfl) ?_
  refine lv_bipush (v := 7) hx hb (show decode cX5_init 17 = .ok (.bipush 7, 2) by decide +kernel) (by decide) ?_
  refine lv_bipush (v := 7) hx hb (show decode cX5_init 19 = .ok (.bipush 7, 2) by decide +kernel) (by decide) ?_
  refine va_mnaQ (N' := 7) (K' := 7) (ty := .int) (cy := gca E 0) hx hb hown (hts2 _ gwk_12) hNi.2.2 (hts2 _ gwk_6) ((hK.2 0 (gca E 0, .int) rfl).2) hK hP hD hS hA (by decide) (by decide) rfl rfl (Nat.le_of_ble_eq_true rfl) (Nat.le_of_ble_eq_true rfl) (Nat.le_of_ble_eq_true rfl) rfl rfl (Nat.le_of_ble_eq_true rfl) (Nat.le_of_ble_eq_true rfl) (z := (7, .inl (fun _ => 0))) (fun c => arrV_new c 7 (.int 0)) (show decode cX5_init 21 = .ok (.multianewarray 9 2, 4) by decide +kernel) (fun a1 cA H hK2 hP hD hS => ?_)
  have hcA : cA = gca E 5 := gca_eq hK2 5 rfl rfl
  subst hcA
  clear hK2
  have hP : va_P (gD E) vwCl ((h0, .inr (5, [.ref a0, .null])) :: (gmul E a0 7 7 ++ gmul E a1 7 7) : va_W) H := hP
  have hD : va_D A ((h0, .inr (5, [.ref a0, .null])) :: (gmul E a0 7 7 ++ gmul E a1 7 7) : va_W) := hD
  refine va_putF (D := gD E) (ci := 5) (v := .ref a1) (ty := .array (.array .int)) (C := RX5) (T := TX5) (N := 2) hx hb hts2 (fun w hw => gBig_of (guw_5 w hw) (gug_5 w hw)) tyX5 tyX5_ok (by decide +kernel) hown hK hP hD hS 0 rfl rfl 1 (by decide) (hts2 _ gwk_14) (fun _ h9 => h9) rfl hin rfl (by decide +kernel) rfl rfl (Nat.le_of_ble_eq_true rfl) (show decode cX5_init 25 = .ok (.putfield 16, 3) by decide +kernel) (fun H locs hP hD hS => ?_)
  have hP : va_P (gD E) vwCl ((h0, .inr (5, [.ref a0, .ref a1])) :: (gmul E a0 7 7 ++ gmul E a1 7 7) : va_W) H := hP
  have hD : va_D A ((h0, .inr (5, [.ref a0, .ref a1])) :: (gmul E a0 7 7 ++ gmul E a1 7 7) : va_W) := hD
  exact W.vret hx hb hr (fun t ht hW => ⟨⟨(fun i => match i with | 0 => a0 | 1 => a1 | _ => 0), rfl, trivial, by rw [ht]; exact hP, hD⟩, hS.F ht⟩) hS.2.2 (show decode cX5_init 28 = .ok (.return_, 1) by decide +kernel)
