/-! ===== number (by wip/p61/p99g.py) ===== -/
theorem kw_89 : (Cond.methodLink "ToeplitzLabLaw$Lab" 48 yJ4_append_bf812) ∈ gBig := gBig_of (gpc3 (List.mem_of_getElem? (i := 14) rfl)) rfl
theorem kw_90 : (Cond.instanceMethod yJ4_append_bf812) ∈ gBig := gBig_of (gpc3 (List.mem_of_getElem? (i := 15) rfl)) rfl
theorem kw_91 : (Cond.selects "java/lang/StringBuilder" yJ4_append_bf812 yJ4_append_bf812) ∈ gBig := gBig_of (gpc3 (List.mem_of_getElem? (i := 16) rfl)) rfl
theorem kw_92 : (Cond.initialized "java/lang/StringBuilder") ∈ gBig := gBig_of (gpc1 (List.mem_of_getElem? (i := 4) rfl)) rfl
theorem kw_93 : (Cond.code yJ4_append_bf812 cJ4_append_bf812 2 (some (.object "java/lang/StringBuilder"))) ∈ gBig := gBig_of (gpc3 (List.mem_of_getElem? (i := 17) rfl)) rfl
theorem kw_94 : (Cond.methodLink "ToeplitzLabLaw$Lab" 63 yJ4_append_cf468) ∈ gBig := gBig_of (gpc3 (List.mem_of_getElem? (i := 45) rfl)) rfl
theorem kw_95 : (Cond.instanceMethod yJ4_append_cf468) ∈ gBig := gBig_of (gpc3 (List.mem_of_getElem? (i := 46) rfl)) rfl
theorem kw_96 : (Cond.selects "java/lang/StringBuilder" yJ4_append_cf468 yJ4_append_cf468) ∈ gBig := gBig_of (gpc3 (List.mem_of_getElem? (i := 47) rfl)) rfl
theorem kw_97 : (Cond.code yJ4_append_cf468 cJ4_append_cf468 2 (some (.object "java/lang/StringBuilder"))) ∈ gBig := gBig_of (gpc3 (List.mem_of_getElem? (i := 48) rfl)) rfl
theorem kFr.tr {ws ws1 ws2 : va_W} {q0 q1 q2 : Nat} (h : kFr ws ws1 q0 q1) (hq : q2 = q1 ∨ ws.length ≤ q2) (h2 : kFr ws1 ws2 q0 q2) : kFr ws ws2 q0 q1 :=
  ⟨Nat.le_trans h.1 h2.1, fun k hk h0 h1 => (h2.2 k (Nat.lt_of_lt_of_le hk h.1) h0 (by omega)).trans (h.2 k hk h0 h1)⟩
theorem kFr.q {ws ws1 : va_W} {q0 q1 q2 q3 : Nat} (h : kFr ws ws1 q0 q1) (hq : q2 = q1 ∨ ws.length ≤ q2) (hq2 : q3 = q2 ∨ ws1.length ≤ q3) : q3 = q1 ∨ ws.length ≤ q3 := by
  have := h.1
  omega
/-- Lab.number -/
theorem k_number {E : gEn} {K : kEn} {ws : va_W} {q0 q1 q a m : Nat} {v : Int} {z : Int32} {t : List Int} {f : Nat → Int32} (hSb : Sb E ws q0 q1 q z t a m f) (ht : t.length ≤ 340) (hv1 : -9 ≤ v) (hv2 : v ≤ 9) : kM E K yX9_number cX9_number 2 (some (.object "java/lang/StringBuilder")) { frames := 6, cells := 2, slots := 1400, locals := 210 } [.ref q, .int (gi v)] ws (fun v9 ws1 => v9 = some (.ref q) ∧ ∃ q2 a2 m2 f2, Sb E ws1 q0 q2 q z (t ++ sgL v) a2 m2 f2 ∧ kFr ws ws1 q0 q1 ∧ (q2 = q1 ∨ ws.length ≤ q2)) 2 1400 := by
  refine kM_of (by decide) (Nat.le_of_ble_eq_true rfl) ?_
  intro p e s mI args below meth cc hC H locs LS hP hD hS hA hl
  obtain ⟨hx, hb, hr, hml, hown, htk, hlk, hF, hnm⟩ := hC
  have hts : ∀ w ∈ gBig, w.before args s = true := fun w h => htk w (kBig_g h)
  have hE := hF.1
  have hK := hE.1
  have hl : lv_has LS 2 [(0, .ref q), (1, .int (gi v))] := hl
  refine lv_iload_n hx hb (show decode cX9_number 0 = .ok (.iload_n 1, 1) by decide +kernel) rfl (lv_at hl 1 rfl) ?_
  refine lv_if_ge hx hb (show decode cX9_number 1 = .ok (.ifCond .ge 17, 3) by decide +kernel) (tgt := 18) rfl (fun h9 => ?_) (fun h9 => ?_)
  · rw [show (0 : Int32) = gi 0 from rfl, gi_le (by omega) (by omega) (by omega) (by omega)] at h9
    obtain ⟨x, rfl⟩ : ∃ x : Nat, v = x := ⟨v.toNat, by omega⟩
    refine lv_aload_n hx hb (show decode cX9_number 18 = .ok (.aload_n 0, 1) by decide +kernel) rfl (lv_at hl 0 rfl) ?_
    refine lv_iload_n hx hb (show decode cX9_number 19 = .ok (.iload_n 1, 1) by decide +kernel) rfl (lv_at hl 1 rfl) ?_
    refine k_callV (As := [.int (gi (x : Int))]) (rest := []) ⟨hx, hb, hml, hown, htk, hF⟩ (show decode cX9_number 20 = .ok (.invokevirtual 48, 3) by decide +kernel) ⟨kw_89, kw_90, kw_91, kw_92, kw_93⟩ (np := 1) (by decide +kernel) rfl ⟨Nat.le_of_ble_eq_true rfl, Nat.le_of_ble_eq_true rfl⟩ ⟨rfl, rfl⟩ (va_recv hK hP (ci := 11) rfl hSb.1) hl.1 (Nat.le_of_ble_eq_true rfl) ⟨Nat.le_of_ble_eq_true rfl, Nat.le_of_ble_eq_true rfl⟩ hP hD hS (k_sbI hSb (by omega) (by omega)) (fun v ws1 H locs hv hP hD hS => ?_)
    obtain ⟨rfl, q2, a2, m2, f2, hS2, hF2, hq2⟩ := hv
    refine W.widen (k := 2) (n := 1400) (Nat.le_of_ble_eq_true rfl) (Nat.le_of_ble_eq_true rfl) ?_
    have ed : dgL x = sgL (x : Int) := by unfold dgL sgL; rw [if_pos (by omega), if_neg (by omega)]; rfl
    rw [ed] at hS2
    exact k_aret hx hb hr (Or.inl ⟨_, rfl⟩) hlk (by decide +kernel) hP hD hS ⟨rfl, q2, a2, m2, f2, hS2, hF2, hq2⟩
  · rw [show (0 : Int32) = gi 0 from rfl, gi_le (by omega) (by omega) (by omega) (by omega)] at h9
    obtain ⟨x, hx9⟩ : ∃ x : Nat, -v = x := ⟨(-v).toNat, by omega⟩
    refine lv_aload_n hx hb (show decode cX9_number 4 = .ok (.aload_n 0, 1) by decide +kernel) rfl (lv_at hl 0 rfl) ?_
    refine lv_bipush (v := 45) hx hb (show decode cX9_number 5 = .ok (.bipush 45, 2) by decide +kernel) (by decide) ?_
    refine k_callV (As := [.int (gi ((45 : Nat) : Int))]) (rest := []) ⟨hx, hb, hml, hown, htk, hF⟩ (show decode cX9_number 7 = .ok (.invokevirtual 63, 3) by decide +kernel) ⟨kw_94, kw_95, kw_96, kw_92, kw_97⟩ (np := 1) (by decide +kernel) rfl ⟨Nat.le_of_ble_eq_true rfl, Nat.le_of_ble_eq_true rfl⟩ ⟨rfl, rfl⟩ (va_recv hK hP (ci := 11) rfl hSb.1) hl.1 (Nat.le_of_ble_eq_true rfl) ⟨Nat.le_of_ble_eq_true rfl, Nat.le_of_ble_eq_true rfl⟩ hP hD hS (k_sbC hSb (by omega) (by decide)) (fun v ws1 H locs hv hP hD hS => ?_)
    obtain ⟨rfl, q2, a2, m2, f2, hS2, hF2, hq2⟩ := hv
    refine lv_iload_n hx hb (show decode cX9_number 10 = .ok (.iload_n 1, 1) by decide +kernel) rfl (lv_at hl 1 rfl) ?_
    refine lv_ineg hx hb (show decode cX9_number 11 = .ok (.ineg, 1) by decide +kernel) ?_
    rw [gi_neg, hx9]
    refine k_callV (As := [.int (gi (x : Int))]) (rest := []) ⟨hx, hb, hml, hown, htk, hF⟩ (show decode cX9_number 12 = .ok (.invokevirtual 48, 3) by decide +kernel) ⟨kw_89, kw_90, kw_91, kw_92, kw_93⟩ (np := 1) (by decide +kernel) rfl ⟨Nat.le_of_ble_eq_true rfl, Nat.le_of_ble_eq_true rfl⟩ ⟨rfl, rfl⟩ (va_recv hK hP (ci := 11) rfl hS2.1) hl.1 (Nat.le_of_ble_eq_true rfl) ⟨Nat.le_of_ble_eq_true rfl, Nat.le_of_ble_eq_true rfl⟩ hP hD hS (k_sbI hS2 (by rw [List.length_append]; show t.length + 1 ≤ 348; omega) (by omega)) (fun v ws2 H locs hv hP hD hS => ?_)
    obtain ⟨rfl, q3, a3, m3, f3, hS3, hF3, hq3⟩ := hv
    refine lv_goto hx hb (show decode cX9_number 15 = .ok (.goto 8, 3) by decide +kernel) (tgt := 23) rfl ?_
    have ed : t ++ [((45 : Nat) : Int)] ++ dgL x = t ++ sgL v := by unfold dgL sgL; rw [if_pos (by omega), if_pos (by omega), List.append_assoc, hx9]; rfl
    rw [ed] at hS3
    exact k_aret hx hb hr (Or.inl ⟨_, rfl⟩) hlk (by decide +kernel) hP hD hS ⟨rfl, q3, a3, m3, f3, hS3, hF2.tr hq2 hF3, hF2.q hq2 hq3⟩
