/-! ===== toString (by wip/p61/p99m.py) ===== -/
theorem kw_148 : (Cond.classLink "java/lang/StringBuilder" 18 "java/lang/String") ∈ gBig := gBig_of (gpc6 (List.mem_of_getElem? (i := 142) rfl)) rfl
theorem kw_149 : (Cond.instantiable "java/lang/String" 4) ∈ gBig := gBig_of (gpc6 (List.mem_of_getElem? (i := 143) rfl)) rfl
theorem kw_150 : (Cond.methodLink "java/lang/StringBuilder" 137 yJ0_init_81219) ∈ gBig := gBig_of (gpc6 (List.mem_of_getElem? (i := 144) rfl)) rfl
theorem kw_151 : (Cond.instanceMethod yJ0_init_81219) ∈ gBig := gBig_of (gpc6 (List.mem_of_getElem? (i := 145) rfl)) rfl
theorem kw_152 : (Cond.code yJ0_init_81219 cJ0_init_81219 2 none) ∈ gBig := gBig_of (gpc6 (List.mem_of_getElem? (i := 146) rfl)) rfl
theorem kset2 {ws : va_W} {x y z : Nat × va_E} {n : Nat} (hn : n = ws.length) : (((ws ++ [x]).set n y) ++ [z]).set n x = ws ++ [x, z] := by
  subst hn
  rw [List.set_append_right _ _ (Nat.le_refl _), Nat.sub_self]
  show ((ws ++ [y]) ++ [z]).set ws.length x = _
  rw [List.append_assoc, List.set_append_right _ _ (Nat.le_refl _), Nat.sub_self]
  rfl
theorem kset3 {ws : va_W} {x y z v : Nat × va_E} {n : Nat} (hn : n = ws.length) : (((ws ++ [x]).set n y) ++ [z]).set n v = ws ++ [v, z] := by
  subst hn
  rw [List.set_append_right _ _ (Nat.le_refl _), Nat.sub_self]
  show ((ws ++ [y]) ++ [z]).set ws.length v = _
  rw [List.append_assoc, List.set_append_right _ _ (Nat.le_refl _), Nat.sub_self]
  rfl
theorem Sb.app {E : gEn} {ws : va_W} {q0 q1 q a m : Nat} {z : Int32} {t : List Int} {f : Nat → Int32} (h : Sb E ws q0 q1 q z t a m f) (w2 : va_W) : Sb E (ws ++ w2) q0 q1 q z t a m f := by
  obtain ⟨h0, h1, hr⟩ := h
  refine ⟨?_, ?_, hr⟩
  · rw [List.getElem?_append_left (List.getElem?_eq_some_iff.mp h0).1]; exact h0
  · rw [List.getElem?_append_left (List.getElem?_eq_some_iff.mp h1).1]; exact h1
/-- toString -/
theorem k_toString {E : gEn} {K : kEn} {ws : va_W} {q0 q1 q a m9 : Nat} {z : Int32} {t : List Int} {f : Nat → Int32} (hSb : Sb E ws q0 q1 q z t a m9 f) : kM E K yJ4_toString_0e30d cJ4_toString_0e30d 1 (some (.object "java/lang/String")) { frames := 7, cells := 2, slots := t.length + 4, locals := 230 } [.ref q] ws (fun v ws1 => ∃ s0 a2 f2, v = some (.ref s0) ∧ ws1 = ws ++ [(s0, .inr (10, [.ref a2, .int 0, .int 0, .int 0])), (a2, .inl (gca E 3, t.length, .inl f2))] ∧ ∀ i, i < t.length → f2 i = f i) 2 (t.length + 4) := by
  refine kM_of (by decide) (Nat.le_of_ble_eq_true rfl) ?_
  intro p e s mI args below meth cc hC H locs LS hP hD hS hA hl
  obtain ⟨hx, hb, hr, hml, hown, htk, hlk, hF, hnm⟩ := hC
  have hts : ∀ w ∈ gBig, w.before args s = true := fun w h => htk w (kBig_g h)
  have hE := hF.1
  have hK := hE.1
  have hl : lv_has LS 1 [(0, .ref q)] := hl
  refine va_new (ci := 10) (fs := [.null, .int 0, .int 0, .int 0]) (C := RJ0) (T := TJ0) (N := 4) hx hb hts kgS ktyJ0 ktyJ0_ok hown (hts _ kw_148) (hts _ kw_149) (hts _ kw_65) hK hP hD hS hA rfl (fun j hj => by rcases (show j = 0 ∨ j = 1 ∨ j = 2 ∨ j = 3 by omega) with rfl | rfl | rfl | rfl <;> rfl) (Nat.le_of_ble_eq_true rfl) (by show 0 + 4 ≤ t.length + 4; omega) (show decode cJ4_toString_0e30d 0 = .ok (.new 18, 3) by decide +kernel) (fun s0 H hP hD hS => ?_)
  have hs0 : (ws ++ [(s0, (.inr (10, [.null, .int 0, .int 0, .int 0]) : va_E))])[ws.length]? = some (s0, .inr (10, [.null, .int 0, .int 0, .int 0])) := by rw [List.getElem?_append_right (Nat.le_refl _), Nat.sub_self]; rfl
  refine lv_dup hx hb (show decode cJ4_toString_0e30d 3 = .ok (.dup, 1) by decide +kernel) rfl ?_
  refine lv_aload_n hx hb (show decode cJ4_toString_0e30d 4 = .ok (.aload_n 0, 1) by decide +kernel) rfl (lv_at hl 0 rfl) ?_
  refine k_callI (As := [.ref q]) (rest := [.ref s0]) ⟨hx, hb, hml, hown, htk, hF⟩ (show decode cJ4_toString_0e30d 5 = .ok (.invokespecial 137, 3) by decide +kernel) ⟨kw_150, kw_151, kw_65, kw_152⟩ rfl (np := 1) (by decide +kernel) rfl ⟨Nat.le_of_ble_eq_true rfl, Nat.le_of_ble_eq_true rfl⟩ ⟨rfl, rfl⟩ hl.1 (Nat.le_of_ble_eq_true rfl) ⟨Nat.le_of_ble_eq_true rfl, by show 0 + 4 + t.length ≤ t.length + 4; omega⟩ hP hD hS (k_strNew hs0 (hSb.app _)) (fun v ws1 H locs hv hP hD hS => ?_)
  obtain ⟨rfl, a2, f2, e9, hf2⟩ := hv
  rw [kset3 rfl] at e9
  refine W.widen (k := 2) (n := t.length + 4) (Nat.le_of_ble_eq_true rfl) (by show 0 + 4 + t.length ≤ t.length + 4; omega) ?_
  exact k_aret hx hb hr (Or.inl ⟨_, rfl⟩) hlk (by decide +kernel) hP hD hS ⟨s0, a2, f2, rfl, e9, hf2⟩
