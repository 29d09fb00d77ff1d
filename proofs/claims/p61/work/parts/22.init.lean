/-! ===== constructors (by wip/whole/kinit.py) ===== -/
theorem va_D1 (ad : Nat) (c : va_E) {sz : Nat} : va_D (va_A [(ad, c)] sz) [(ad, c)] := by
  refine ⟨fun i j p q hi hj _ => ?_, fun k q hk => va_A.in hk⟩
  have h1 : i < 1 := (List.getElem?_eq_some_iff.mp hi).1
  have h2 : j < 1 := (List.getElem?_eq_some_iff.mp hj).1
  omega
theorem gwi_0 : (Cond.methodLink RX6 3 objectInit) ∈ gBig := gBig_of (gpc1 (List.mem_of_getElem? (i := 48) rfl)) rfl
theorem gwi_1 : (Cond.instanceMethod objectInit) ∈ gBig := gBig_of (gpc1 (List.mem_of_getElem? (i := 35) rfl)) rfl
theorem gwi_2 : (Cond.code objectInit ⟨#[0xb1]⟩ 1 none) ∈ gBig := gBig_of (gpc1 (List.mem_of_getElem? (i := 36) rfl)) rfl
theorem gwi_3 : (Cond.arrayClass .int) ∈ gBig := gBig_of (gpc1 (List.mem_of_getElem? (i := 109) rfl)) rfl
theorem gwi_4 : (Cond.fieldLink RX6 9 "ToeplitzLab$State" "diagonals" "[I") ∈ gBig := gBig_of (gpc1 (List.mem_of_getElem? (i := 59) rfl)) rfl
theorem gwi_5 : (Cond.fieldLink RX6 15 "ToeplitzLab$State" "sides" "[I") ∈ gBig := gBig_of (gpc1 (List.mem_of_getElem? (i := 60) rfl)) rfl
theorem gwi_6 : (Cond.fieldLink RX6 18 "ToeplitzLab$State" "probes" "[I") ∈ gBig := gBig_of (gpc1 (List.mem_of_getElem? (i := 64) rfl)) rfl
theorem gwi_7 : (Cond.fieldLink RX6 21 "ToeplitzLab$State" "power" "J") ∈ gBig := gBig_of (gpc1 (List.mem_of_getElem? (i := 71) rfl)) rfl
theorem gwi_8 : (Cond.arrayClass .long) ∈ gBig := gBig_of (gpc1 (List.mem_of_getElem? (i := 110) rfl)) rfl
theorem gwi_9 : (Cond.fieldLink RX6 25 "ToeplitzLab$State" "sums" "[J") ∈ gBig := gBig_of (gpc1 (List.mem_of_getElem? (i := 74) rfl)) rfl
theorem gwi_10 : (Cond.fieldLink RX6 29 "ToeplitzLab$State" "rests" "[I") ∈ gBig := gBig_of (gpc1 (List.mem_of_getElem? (i := 78) rfl)) rfl
theorem gwi_11 : (Cond.fieldLink RX6 32 "ToeplitzLab$State" "account" "[I") ∈ gBig := gBig_of (gpc1 (List.mem_of_getElem? (i := 83) rfl)) rfl
def gzw_6 (E : gEn) (h0 : Nat) (f : Nat → Nat) : va_W := [(h0, .inr (6, [.int 0, .int 0, .ref (f 0), .ref (f 1), .ref (f 2), .int 0, .long 1, .ref (f 3), .ref (f 4), .int 0, .ref (f 5)])), ((f 0), .inl (gca E 0, 13, .inl (fun _ => 0))), ((f 1), .inl (gca E 0, 7, .inl (fun _ => 0))), ((f 2), .inl (gca E 0, 7, .inl (fun _ => 0))), ((f 3), .inl (gca E 1, 7, .inr (.inl (fun _ => 0)))), ((f 4), .inl (gca E 0, 7, .inl (fun _ => 0))), ((f 5), .inl (gca E 0, 90, .inl (fun _ => 0)))]
set_option maxHeartbeats 4000000 in
set_option maxRecDepth 100000 in
theorem gi_6 (l : Launch) (E : gEn) (h0 sz : Nat) : Met l yX6_init (Cond.code yX6_init cX6_init 1 none :: gBig) ({ frames := 1, cells := 6, slots := 131, locals := 12 }) (va_Pc [.ref h0] (fun U => U.heap.size = sz ∧ va_P (gD E) vwCl [(h0, .inr (6, [.int 0, .int 0, .null, .null, .null, .int 0, .long 0, .null, .null, .int 0, .null]))] U.heap ∧ va_K (gD E) vwCl (gtys E) U)) (va_Qv (fun _ : Nat → Nat => True) (fun f t => va_P (gD E) vwCl (gzw_6 E h0 f) t.heap ∧ va_D (va_A [(h0, .inr (6, [.int 0, .int 0, .null, .null, .null, .int 0, .long 0, .null, .null, .int 0, .null]))] sz) (gzw_6 E h0 f)) (va_A [(h0, .inr (6, [.int 0, .int 0, .null, .null, .null, .int 0, .long 0, .null, .null, .int 0, .null]))] sz)) 6 131 (va_A [(h0, .inr (6, [.int 0, .int 0, .null, .null, .null, .int 0, .long 0, .null, .null, .int 0, .null]))] sz) := by
  refine Met.ofW (cc := cX6_init) (maxL := 1) (ret := none) (by decide) rfl ?_
  intro p e s m args below meth c s₁ B hml hv
  obtain ⟨rfl, hsz, hP, hK⟩ := hv
  have hx := B.exec
  have hb := B.bytes
  have hr := B.returns
  have hts := atoms_spec (ws := Cond.code yX6_init cX6_init 1 none :: gBig) B.pre
  have hts2 : ∀ w ∈ gBig, w.before #[.ref h0] s = true := fun w hw => hts w (List.mem_cons_of_mem _ hw)
  have hown : s.vm.findClass RX6 = some m.cls := findClass_of_methodNamed B.named
  have hlocks := B.notSynchronized
  have hin : meth.name = "<init>" := (name_of_methodNamed B.named B.method).1
  subst hsz
  have hD : va_D (va_A [(h0, .inr (6, [.int 0, .int 0, .null, .null, .null, .int 0, .long 0, .null, .null, .int 0, .null]))] s.heap.size) [(h0, .inr (6, [.int 0, .int 0, .null, .null, .null, .int 0, .long 0, .null, .null, .int 0, .null]))] := va_D1 _ _
  generalize hAe : va_A [(h0, .inr (6, [.int 0, .int 0, .null, .null, .null, .int 0, .long 0, .null, .null, .int 0, .null]))] s.heap.size = A at hD ⊢
  have hA : ∀ q : Nat, s.heap.size ≤ q → A q := fun q h => by rw [← hAe]; exact Or.inr h
  have hS : va_S A s.heap s.heap [] := va_S.rf
  have hl := lv_entry ([.ref h0]) (n := 1) (Nat.le_of_ble_eq_true rfl)
  rw [lg_entry_eq]
  generalize (lg_sl ([.ref h0]) ++ List.replicate (1 - (lg_sl ([.ref h0])).length) Slot.unset).toArray = ls at hl ⊢
  have hl : lv_has ls 1 [(0, .ref h0)] := hl
  refine lv_aload_n hx hb (show decode cX6_init 0 = .ok (.aload_n 0, 1) by decide +kernel) rfl (lv_at hl 0 rfl) ?_
  refine W.objInit hx hb hown (hts _ (List.mem_cons_of_mem _ gwi_0)) (hts _ (List.mem_cons_of_mem _ gwi_1)) (hts _ (List.mem_cons_of_mem _ gwi_2)) rfl (by rw [hml]; exact hl.1) rfl (show decode cX6_init 1 = .ok (.invokespecial 3, 3) by decide +kernel) (Nat.le_of_ble_eq_true rfl) (Nat.le_of_ble_eq_true rfl) ?_
  refine W.eq (g2 := F0 m 4 ls []) rfl ?_
  refine lv_aload_n hx hb (show decode cX6_init 4 = .ok (.aload_n 0, 1) by decide +kernel) rfl (lv_at hl 0 rfl) ?_
  refine lv_bipush hx hb (show decode cX6_init 5 = .ok (.bipush 13, 2) by decide +kernel) rfl ?_
  refine va_newa (atype := .int) (ty := .int) (a0 := (13, .inl (fun _ => 0))) (N' := 13) hx hb (hts _ (List.mem_cons_of_mem _ gwi_3)) rfl hK hP hD hS hA (fun _ => rfl) (by decide) rfl (Nat.le_of_ble_eq_true rfl) (Nat.le_of_ble_eq_true rfl) (Nat.le_of_ble_eq_true rfl) (show decode cX6_init 7 = .ok (.newarray .int, 2) by decide +kernel) (fun a1 cA H hK2 hP hD hS => ?_)
  have hcA : cA = gca E 0 := gca_eq hK2 0 rfl rfl
  subst hcA
  clear hK2
  have hP : va_P (gD E) vwCl [(h0, .inr (6, [.int 0, .int 0, .null, .null, .null, .int 0, .long 0, .null, .null, .int 0, .null])), (a1, .inl (gca E 0, 13, .inl (fun _ => 0)))] H := hP
  have hD : va_D A [(h0, .inr (6, [.int 0, .int 0, .null, .null, .null, .int 0, .long 0, .null, .null, .int 0, .null])), (a1, .inl (gca E 0, 13, .inl (fun _ => 0)))] := hD
  refine va_putF (D := gD E) (ci := 6) (v := .ref a1) (ty := .array .int) (C := RX6) (T := TX6) (N := 11) hx hb hts2 (fun w hw => gBig_of (guw_6 w hw) (gug_6 w hw)) tyX6 tyX6_ok (by decide +kernel) hown hK hP hD hS 0 rfl rfl 2 (by decide) (hts _ (List.mem_cons_of_mem _ gwi_4)) (fun _ h9 => h9) rfl hin rfl (by decide +kernel) rfl rfl (Nat.le_of_ble_eq_true rfl) (show decode cX6_init 9 = .ok (.putfield 9, 3) by decide +kernel) (fun H locs hP hD hS => ?_)
  have hP : va_P (gD E) vwCl [(h0, .inr (6, [.int 0, .int 0, .ref a1, .null, .null, .int 0, .long 0, .null, .null, .int 0, .null])), (a1, .inl (gca E 0, 13, .inl (fun _ => 0)))] H := hP
  have hD : va_D A [(h0, .inr (6, [.int 0, .int 0, .ref a1, .null, .null, .int 0, .long 0, .null, .null, .int 0, .null])), (a1, .inl (gca E 0, 13, .inl (fun _ => 0)))] := hD
  refine lv_aload_n hx hb (show decode cX6_init 12 = .ok (.aload_n 0, 1) by decide +kernel) rfl (lv_at hl 0 rfl) ?_
  refine lv_bipush hx hb (show decode cX6_init 13 = .ok (.bipush 7, 2) by decide +kernel) rfl ?_
  refine va_newa (atype := .int) (ty := .int) (a0 := (7, .inl (fun _ => 0))) (N' := 7) hx hb (hts _ (List.mem_cons_of_mem _ gwi_3)) rfl hK hP hD hS hA (fun _ => rfl) (by decide) rfl (Nat.le_of_ble_eq_true rfl) (Nat.le_of_ble_eq_true rfl) (Nat.le_of_ble_eq_true rfl) (show decode cX6_init 15 = .ok (.newarray .int, 2) by decide +kernel) (fun a2 cA H hK2 hP hD hS => ?_)
  have hcA : cA = gca E 0 := gca_eq hK2 0 rfl rfl
  subst hcA
  clear hK2
  have hP : va_P (gD E) vwCl [(h0, .inr (6, [.int 0, .int 0, .ref a1, .null, .null, .int 0, .long 0, .null, .null, .int 0, .null])), (a1, .inl (gca E 0, 13, .inl (fun _ => 0))), (a2, .inl (gca E 0, 7, .inl (fun _ => 0)))] H := hP
  have hD : va_D A [(h0, .inr (6, [.int 0, .int 0, .ref a1, .null, .null, .int 0, .long 0, .null, .null, .int 0, .null])), (a1, .inl (gca E 0, 13, .inl (fun _ => 0))), (a2, .inl (gca E 0, 7, .inl (fun _ => 0)))] := hD
  refine va_putF (D := gD E) (ci := 6) (v := .ref a2) (ty := .array .int) (C := RX6) (T := TX6) (N := 11) hx hb hts2 (fun w hw => gBig_of (guw_6 w hw) (gug_6 w hw)) tyX6 tyX6_ok (by decide +kernel) hown hK hP hD hS 0 rfl rfl 3 (by decide) (hts _ (List.mem_cons_of_mem _ gwi_5)) (fun _ h9 => h9) rfl hin rfl (by decide +kernel) rfl rfl (Nat.le_of_ble_eq_true rfl) (show decode cX6_init 17 = .ok (.putfield 15, 3) by decide +kernel) (fun H locs hP hD hS => ?_)
  have hP : va_P (gD E) vwCl [(h0, .inr (6, [.int 0, .int 0, .ref a1, .ref a2, .null, .int 0, .long 0, .null, .null, .int 0, .null])), (a1, .inl (gca E 0, 13, .inl (fun _ => 0))), (a2, .inl (gca E 0, 7, .inl (fun _ => 0)))] H := hP
  have hD : va_D A [(h0, .inr (6, [.int 0, .int 0, .ref a1, .ref a2, .null, .int 0, .long 0, .null, .null, .int 0, .null])), (a1, .inl (gca E 0, 13, .inl (fun _ => 0))), (a2, .inl (gca E 0, 7, .inl (fun _ => 0)))] := hD
  refine lv_aload_n hx hb (show decode cX6_init 20 = .ok (.aload_n 0, 1) by decide +kernel) rfl (lv_at hl 0 rfl) ?_
  refine lv_bipush hx hb (show decode cX6_init 21 = .ok (.bipush 7, 2) by decide +kernel) rfl ?_
  refine va_newa (atype := .int) (ty := .int) (a0 := (7, .inl (fun _ => 0))) (N' := 7) hx hb (hts _ (List.mem_cons_of_mem _ gwi_3)) rfl hK hP hD hS hA (fun _ => rfl) (by decide) rfl (Nat.le_of_ble_eq_true rfl) (Nat.le_of_ble_eq_true rfl) (Nat.le_of_ble_eq_true rfl) (show decode cX6_init 23 = .ok (.newarray .int, 2) by decide +kernel) (fun a3 cA H hK2 hP hD hS => ?_)
  have hcA : cA = gca E 0 := gca_eq hK2 0 rfl rfl
  subst hcA
  clear hK2
  have hP : va_P (gD E) vwCl [(h0, .inr (6, [.int 0, .int 0, .ref a1, .ref a2, .null, .int 0, .long 0, .null, .null, .int 0, .null])), (a1, .inl (gca E 0, 13, .inl (fun _ => 0))), (a2, .inl (gca E 0, 7, .inl (fun _ => 0))), (a3, .inl (gca E 0, 7, .inl (fun _ => 0)))] H := hP
  have hD : va_D A [(h0, .inr (6, [.int 0, .int 0, .ref a1, .ref a2, .null, .int 0, .long 0, .null, .null, .int 0, .null])), (a1, .inl (gca E 0, 13, .inl (fun _ => 0))), (a2, .inl (gca E 0, 7, .inl (fun _ => 0))), (a3, .inl (gca E 0, 7, .inl (fun _ => 0)))] := hD
  refine va_putF (D := gD E) (ci := 6) (v := .ref a3) (ty := .array .int) (C := RX6) (T := TX6) (N := 11) hx hb hts2 (fun w hw => gBig_of (guw_6 w hw) (gug_6 w hw)) tyX6 tyX6_ok (by decide +kernel) hown hK hP hD hS 0 rfl rfl 4 (by decide) (hts _ (List.mem_cons_of_mem _ gwi_6)) (fun _ h9 => h9) rfl hin rfl (by decide +kernel) rfl rfl (Nat.le_of_ble_eq_true rfl) (show decode cX6_init 25 = .ok (.putfield 18, 3) by decide +kernel) (fun H locs hP hD hS => ?_)
  have hP : va_P (gD E) vwCl [(h0, .inr (6, [.int 0, .int 0, .ref a1, .ref a2, .ref a3, .int 0, .long 0, .null, .null, .int 0, .null])), (a1, .inl (gca E 0, 13, .inl (fun _ => 0))), (a2, .inl (gca E 0, 7, .inl (fun _ => 0))), (a3, .inl (gca E 0, 7, .inl (fun _ => 0)))] H := hP
  have hD : va_D A [(h0, .inr (6, [.int 0, .int 0, .ref a1, .ref a2, .ref a3, .int 0, .long 0, .null, .null, .int 0, .null])), (a1, .inl (gca E 0, 13, .inl (fun _ => 0))), (a2, .inl (gca E 0, 7, .inl (fun _ => 0))), (a3, .inl (gca E 0, 7, .inl (fun _ => 0)))] := hD
  refine lv_aload_n hx hb (show decode cX6_init 28 = .ok (.aload_n 0, 1) by decide +kernel) rfl (lv_at hl 0 rfl) ?_
  refine lv_lconst hx hb (show decode cX6_init 29 = .ok (.lconst 1, 1) by decide +kernel) rfl ?_
  refine va_put (D := gD E) (ci := 6) (v := .long 1) (ty := .long) (C := RX6) (T := TX6) (N := 11) hx hb hts2 (fun w hw => gBig_of (guw_6 w hw) (gug_6 w hw)) tyX6 tyX6_ok (by decide +kernel) hown hK hP hD hS 0 rfl rfl 6 (by decide) (hts _ (List.mem_cons_of_mem _ gwi_7)) (fun _ h9 => h9) rfl (by decide +kernel) rfl rfl (Nat.le_of_ble_eq_true rfl) (show decode cX6_init 30 = .ok (.putfield 21, 3) by decide +kernel) (fun H locs hP hD hS => ?_)
  have hP : va_P (gD E) vwCl [(h0, .inr (6, [.int 0, .int 0, .ref a1, .ref a2, .ref a3, .int 0, .long 1, .null, .null, .int 0, .null])), (a1, .inl (gca E 0, 13, .inl (fun _ => 0))), (a2, .inl (gca E 0, 7, .inl (fun _ => 0))), (a3, .inl (gca E 0, 7, .inl (fun _ => 0)))] H := hP
  have hD : va_D A [(h0, .inr (6, [.int 0, .int 0, .ref a1, .ref a2, .ref a3, .int 0, .long 1, .null, .null, .int 0, .null])), (a1, .inl (gca E 0, 13, .inl (fun _ => 0))), (a2, .inl (gca E 0, 7, .inl (fun _ => 0))), (a3, .inl (gca E 0, 7, .inl (fun _ => 0)))] := hD
  refine lv_aload_n hx hb (show decode cX6_init 33 = .ok (.aload_n 0, 1) by decide +kernel) rfl (lv_at hl 0 rfl) ?_
  refine lv_bipush hx hb (show decode cX6_init 34 = .ok (.bipush 7, 2) by decide +kernel) rfl ?_
  refine va_newa (atype := .long) (ty := .long) (a0 := (7, .inr (.inl (fun _ => 0)))) (N' := 7) hx hb (hts _ (List.mem_cons_of_mem _ gwi_8)) rfl hK hP hD hS hA (fun _ => rfl) (by decide) rfl (Nat.le_of_ble_eq_true rfl) (Nat.le_of_ble_eq_true rfl) (Nat.le_of_ble_eq_true rfl) (show decode cX6_init 36 = .ok (.newarray .long, 2) by decide +kernel) (fun a4 cA H hK2 hP hD hS => ?_)
  have hcA : cA = gca E 1 := gca_eq hK2 1 rfl rfl
  subst hcA
  clear hK2
  have hP : va_P (gD E) vwCl [(h0, .inr (6, [.int 0, .int 0, .ref a1, .ref a2, .ref a3, .int 0, .long 1, .null, .null, .int 0, .null])), (a1, .inl (gca E 0, 13, .inl (fun _ => 0))), (a2, .inl (gca E 0, 7, .inl (fun _ => 0))), (a3, .inl (gca E 0, 7, .inl (fun _ => 0))), (a4, .inl (gca E 1, 7, .inr (.inl (fun _ => 0))))] H := hP
  have hD : va_D A [(h0, .inr (6, [.int 0, .int 0, .ref a1, .ref a2, .ref a3, .int 0, .long 1, .null, .null, .int 0, .null])), (a1, .inl (gca E 0, 13, .inl (fun _ => 0))), (a2, .inl (gca E 0, 7, .inl (fun _ => 0))), (a3, .inl (gca E 0, 7, .inl (fun _ => 0))), (a4, .inl (gca E 1, 7, .inr (.inl (fun _ => 0))))] := hD
  refine va_putF (D := gD E) (ci := 6) (v := .ref a4) (ty := .array .long) (C := RX6) (T := TX6) (N := 11) hx hb hts2 (fun w hw => gBig_of (guw_6 w hw) (gug_6 w hw)) tyX6 tyX6_ok (by decide +kernel) hown hK hP hD hS 0 rfl rfl 7 (by decide) (hts _ (List.mem_cons_of_mem _ gwi_9)) (fun _ h9 => h9) rfl hin rfl (by decide +kernel) rfl rfl (Nat.le_of_ble_eq_true rfl) (show decode cX6_init 38 = .ok (.putfield 25, 3) by decide +kernel) (fun H locs hP hD hS => ?_)
  have hP : va_P (gD E) vwCl [(h0, .inr (6, [.int 0, .int 0, .ref a1, .ref a2, .ref a3, .int 0, .long 1, .ref a4, .null, .int 0, .null])), (a1, .inl (gca E 0, 13, .inl (fun _ => 0))), (a2, .inl (gca E 0, 7, .inl (fun _ => 0))), (a3, .inl (gca E 0, 7, .inl (fun _ => 0))), (a4, .inl (gca E 1, 7, .inr (.inl (fun _ => 0))))] H := hP
  have hD : va_D A [(h0, .inr (6, [.int 0, .int 0, .ref a1, .ref a2, .ref a3, .int 0, .long 1, .ref a4, .null, .int 0, .null])), (a1, .inl (gca E 0, 13, .inl (fun _ => 0))), (a2, .inl (gca E 0, 7, .inl (fun _ => 0))), (a3, .inl (gca E 0, 7, .inl (fun _ => 0))), (a4, .inl (gca E 1, 7, .inr (.inl (fun _ => 0))))] := hD
  refine lv_aload_n hx hb (show decode cX6_init 41 = .ok (.aload_n 0, 1) by decide +kernel) rfl (lv_at hl 0 rfl) ?_
  refine lv_bipush hx hb (show decode cX6_init 42 = .ok (.bipush 7, 2) by decide +kernel) rfl ?_
  refine va_newa (atype := .int) (ty := .int) (a0 := (7, .inl (fun _ => 0))) (N' := 7) hx hb (hts _ (List.mem_cons_of_mem _ gwi_3)) rfl hK hP hD hS hA (fun _ => rfl) (by decide) rfl (Nat.le_of_ble_eq_true rfl) (Nat.le_of_ble_eq_true rfl) (Nat.le_of_ble_eq_true rfl) (show decode cX6_init 44 = .ok (.newarray .int, 2) by decide +kernel) (fun a5 cA H hK2 hP hD hS => ?_)
  have hcA : cA = gca E 0 := gca_eq hK2 0 rfl rfl
  subst hcA
  clear hK2
  have hP : va_P (gD E) vwCl [(h0, .inr (6, [.int 0, .int 0, .ref a1, .ref a2, .ref a3, .int 0, .long 1, .ref a4, .null, .int 0, .null])), (a1, .inl (gca E 0, 13, .inl (fun _ => 0))), (a2, .inl (gca E 0, 7, .inl (fun _ => 0))), (a3, .inl (gca E 0, 7, .inl (fun _ => 0))), (a4, .inl (gca E 1, 7, .inr (.inl (fun _ => 0)))), (a5, .inl (gca E 0, 7, .inl (fun _ => 0)))] H := hP
  have hD : va_D A [(h0, .inr (6, [.int 0, .int 0, .ref a1, .ref a2, .ref a3, .int 0, .long 1, .ref a4, .null, .int 0, .null])), (a1, .inl (gca E 0, 13, .inl (fun _ => 0))), (a2, .inl (gca E 0, 7, .inl (fun _ => 0))), (a3, .inl (gca E 0, 7, .inl (fun _ => 0))), (a4, .inl (gca E 1, 7, .inr (.inl (fun _ => 0)))), (a5, .inl (gca E 0, 7, .inl (fun _ => 0)))] := hD
  refine va_putF (D := gD E) (ci := 6) (v := .ref a5) (ty := .array .int) (C := RX6) (T := TX6) (N := 11) hx hb hts2 (fun w hw => gBig_of (guw_6 w hw) (gug_6 w hw)) tyX6 tyX6_ok (by decide +kernel) hown hK hP hD hS 0 rfl rfl 8 (by decide) (hts _ (List.mem_cons_of_mem _ gwi_10)) (fun _ h9 => h9) rfl hin rfl (by decide +kernel) rfl rfl (Nat.le_of_ble_eq_true rfl) (show decode cX6_init 46 = .ok (.putfield 29, 3) by decide +kernel) (fun H locs hP hD hS => ?_)
  have hP : va_P (gD E) vwCl [(h0, .inr (6, [.int 0, .int 0, .ref a1, .ref a2, .ref a3, .int 0, .long 1, .ref a4, .ref a5, .int 0, .null])), (a1, .inl (gca E 0, 13, .inl (fun _ => 0))), (a2, .inl (gca E 0, 7, .inl (fun _ => 0))), (a3, .inl (gca E 0, 7, .inl (fun _ => 0))), (a4, .inl (gca E 1, 7, .inr (.inl (fun _ => 0)))), (a5, .inl (gca E 0, 7, .inl (fun _ => 0)))] H := hP
  have hD : va_D A [(h0, .inr (6, [.int 0, .int 0, .ref a1, .ref a2, .ref a3, .int 0, .long 1, .ref a4, .ref a5, .int 0, .null])), (a1, .inl (gca E 0, 13, .inl (fun _ => 0))), (a2, .inl (gca E 0, 7, .inl (fun _ => 0))), (a3, .inl (gca E 0, 7, .inl (fun _ => 0))), (a4, .inl (gca E 1, 7, .inr (.inl (fun _ => 0)))), (a5, .inl (gca E 0, 7, .inl (fun _ => 0)))] := hD
  refine lv_aload_n hx hb (show decode cX6_init 49 = .ok (.aload_n 0, 1) by decide +kernel) rfl (lv_at hl 0 rfl) ?_
  refine lv_bipush hx hb (show decode cX6_init 50 = .ok (.bipush 90, 2) by decide +kernel) rfl ?_
  refine va_newa (atype := .int) (ty := .int) (a0 := (90, .inl (fun _ => 0))) (N' := 90) hx hb (hts _ (List.mem_cons_of_mem _ gwi_3)) rfl hK hP hD hS hA (fun _ => rfl) (by decide) rfl (Nat.le_of_ble_eq_true rfl) (Nat.le_of_ble_eq_true rfl) (Nat.le_of_ble_eq_true rfl) (show decode cX6_init 52 = .ok (.newarray .int, 2) by decide +kernel) (fun a6 cA H hK2 hP hD hS => ?_)
  have hcA : cA = gca E 0 := gca_eq hK2 0 rfl rfl
  subst hcA
  clear hK2
  have hP : va_P (gD E) vwCl [(h0, .inr (6, [.int 0, .int 0, .ref a1, .ref a2, .ref a3, .int 0, .long 1, .ref a4, .ref a5, .int 0, .null])), (a1, .inl (gca E 0, 13, .inl (fun _ => 0))), (a2, .inl (gca E 0, 7, .inl (fun _ => 0))), (a3, .inl (gca E 0, 7, .inl (fun _ => 0))), (a4, .inl (gca E 1, 7, .inr (.inl (fun _ => 0)))), (a5, .inl (gca E 0, 7, .inl (fun _ => 0))), (a6, .inl (gca E 0, 90, .inl (fun _ => 0)))] H := hP
  have hD : va_D A [(h0, .inr (6, [.int 0, .int 0, .ref a1, .ref a2, .ref a3, .int 0, .long 1, .ref a4, .ref a5, .int 0, .null])), (a1, .inl (gca E 0, 13, .inl (fun _ => 0))), (a2, .inl (gca E 0, 7, .inl (fun _ => 0))), (a3, .inl (gca E 0, 7, .inl (fun _ => 0))), (a4, .inl (gca E 1, 7, .inr (.inl (fun _ => 0)))), (a5, .inl (gca E 0, 7, .inl (fun _ => 0))), (a6, .inl (gca E 0, 90, .inl (fun _ => 0)))] := hD
  refine va_putF (D := gD E) (ci := 6) (v := .ref a6) (ty := .array .int) (C := RX6) (T := TX6) (N := 11) hx hb hts2 (fun w hw => gBig_of (guw_6 w hw) (gug_6 w hw)) tyX6 tyX6_ok (by decide +kernel) hown hK hP hD hS 0 rfl rfl 10 (by decide) (hts _ (List.mem_cons_of_mem _ gwi_11)) (fun _ h9 => h9) rfl hin rfl (by decide +kernel) rfl rfl (Nat.le_of_ble_eq_true rfl) (show decode cX6_init 54 = .ok (.putfield 32, 3) by decide +kernel) (fun H locs hP hD hS => ?_)
  have hP : va_P (gD E) vwCl [(h0, .inr (6, [.int 0, .int 0, .ref a1, .ref a2, .ref a3, .int 0, .long 1, .ref a4, .ref a5, .int 0, .ref a6])), (a1, .inl (gca E 0, 13, .inl (fun _ => 0))), (a2, .inl (gca E 0, 7, .inl (fun _ => 0))), (a3, .inl (gca E 0, 7, .inl (fun _ => 0))), (a4, .inl (gca E 1, 7, .inr (.inl (fun _ => 0)))), (a5, .inl (gca E 0, 7, .inl (fun _ => 0))), (a6, .inl (gca E 0, 90, .inl (fun _ => 0)))] H := hP
  have hD : va_D A [(h0, .inr (6, [.int 0, .int 0, .ref a1, .ref a2, .ref a3, .int 0, .long 1, .ref a4, .ref a5, .int 0, .ref a6])), (a1, .inl (gca E 0, 13, .inl (fun _ => 0))), (a2, .inl (gca E 0, 7, .inl (fun _ => 0))), (a3, .inl (gca E 0, 7, .inl (fun _ => 0))), (a4, .inl (gca E 1, 7, .inr (.inl (fun _ => 0)))), (a5, .inl (gca E 0, 7, .inl (fun _ => 0))), (a6, .inl (gca E 0, 90, .inl (fun _ => 0)))] := hD
  exact W.vret hx hb hr (fun t ht hW => ⟨⟨(fun i => match i with | 0 => a1 | 1 => a2 | 2 => a3 | 3 => a4 | 4 => a5 | 5 => a6 | _ => 0), rfl, trivial, by rw [ht]; exact hP, hD⟩, hS.F ht⟩) hS.2.2 (show decode cX6_init 57 = .ok (.return_, 1) by decide +kernel)
