/-! the start of the law -/
theorem gz_drop {s s' : State} {L : List Loc} {k n : Nat} (h : s.sameButNew s' L k n) (hL : ∀ q ∈ L, s.heap.size ≤ q.base) : s.sameButNew s' [] k n := by
  obtain ⟨h1, h2, h3, h4, h5, h6⟩ := h
  refine ⟨h1, h2, h3, h4, h5, fun a c hc => ?_⟩
  obtain ⟨c', e1, e2, e3, e4⟩ := h6 a c hc
  refine ⟨c', e1, e2, e3, fun i _ => e4 i (fun hm => ?_)⟩
  have := hL _ hm
  have h9 : a < s.heap.size := (Array.getElem?_eq_some_iff.mp hc).1
  exact absurd this (Nat.not_le.mpr h9)
theorem gz_end {p : Program} {l : Launch} {e : Env} {s : State} {m : MethodId} {below : List Frame} {meth : Method} {c : Code} {b : Nat} {E : gEn} {H : Heap} {locs : List Loc} {cells slots : Nat} {ad0 : gR → Nat} {Bs : gB} {g : JFrame} (e2 : gB0 E = s.heap.size)
    (k : W p l e room_1 s m #[Value.ref b] below meth c H locs cells slots (vx_MQ below (gQc E 313 ad0 Bs (fun v _ _ _ => v = .inl (.int (gi 1)))) (gXc E ad0 Bs (fun _ _ _ _ => False)) #[Value.ref b] s (hmc 313) (hms 313) (gA E)) g) :
    W p l e room_1 s m #[Value.ref b] below meth c H locs cells slots (lw_Z below #[Value.ref b] s) g := by
  intro T hT Xs
  obtain ⟨t, a, o, h1, h2, h3⟩ := k T hT Xs
  refine ⟨t, a, o, h1, h2, ?_⟩
  rcases h3 with ⟨⟨⟨v, I, J, B, ad, ho, hq, -⟩, -⟩, L, hF, hL⟩ | ⟨q, -, En, ce, L, ⟨⟨k0, I, J, B, ad, -, hX, -⟩, -⟩, -⟩
  · subst hq
    obtain ⟨hv, hW, hs⟩ := hF
    have hd : s.drawn.sameBut s.drawn lw_cs := Drawn.sameBut.refl s.drawn lw_cs
    refine ⟨ho, ?_⟩
    have hs2 : s.sameButNew ({ t with vm := s.vm } : State) [] (hmc 313) (hms 313) := gz_drop hs (fun q hq => by
      have := hL q hq
      unfold gA at this
      rw [e2] at this
      exact this)
    rw [show hmc 313 = 601024 by decide +kernel, show hms 313 = 7293034 by decide +kernel] at hs2
    exact lw_closed (s := s) (d0 := s.drawn) hd ⟨_, ho⟩ hW hs2
  · exact hX.elim
theorem whole_start {p : Program} {e : Env} {s : State} {m : MethodId} {below : List Frame} {meth : Method} {c : Code} (l : Launch) (hflags : l.flags = flags0) {b L : Nat} {xs : Nat → Int32} (hL : L ≤ 3072) (hT0 : c.exceptionTable.toList = []) (C0 : lw_At p s m meth c b L xs) : W p l e room_1 s m #[Value.ref b] below meth c s.heap [] 0 0 (lw_Z below #[Value.ref b] s) (entryFrame m ([Value.ref b] : List Value).toArray 9) := by
  obtain ⟨hx, hbx, hrx, hmx, hown, hts, hX, hbl, hlocks, hg⟩ := C0
  obtain ⟨E, e1, e2, e3, e4, e5, hE⟩ := gz_E l hflags hts hg hX hbl
  subst e1
  subst e4
  have hNi := gz_Ni hts
  have hts2 : ∀ w ∈ gBig, w.before #[Value.ref b] s = true := fun w hw => hts w (List.mem_filter.mp hw).1
  have hK := hE.1
  have hA : ∀ q : Nat, s.heap.size ≤ q → gA E q := fun q h => by unfold gA; rw [e2]; exact h
  have hS : va_S (gA E) s.heap s.heap [] := va_S.rf
  have hP : va_P (gD E) vwCl [] s.heap := fun k q h => by simp at h
  have hD : va_D (gA E) [] := ⟨fun i j p q h => by simp at h, fun k q h => by simp at h⟩
  have hl := lv_entry ([.ref b]) (n := 9) (Nat.le_of_ble_eq_true rfl)
  rw [lg_entry_eq]
  generalize (lg_sl ([.ref b]) ++ List.replicate (9 - (lg_sl ([.ref b])).length) Slot.unset).toArray = ls at hl ⊢
  have hl : lv_has ls 9 [(0, .ref b)] := hl

  refine va_new (ci := 7) (fs := [.null, .null, .null, .null, .null, .null, .null, .null, .null, .null, .null]) (C := RX7) (T := TX7) (N := 11) hx hbx hts2 (fun w hw => gBig_of (guw_7 w hw) (gug_7 w hw)) tyX7 tyX7_ok hown (hts _ (gpc1 (List.mem_of_getElem? (i := 23) rfl))) (hts _ (gpc1 (List.mem_of_getElem? (i := 24) rfl))) (hts _ (gpc1 (List.mem_of_getElem? (i := 1) rfl))) hK hP hD hS hA rfl (fun j hj => by rcases (show j = 0 ∨ j = 1 ∨ j = 2 ∨ j = 3 ∨ j = 4 ∨ j = 5 ∨ j = 6 ∨ j = 7 ∨ j = 8 ∨ j = 9 ∨ j = 10 by omega) with rfl | rfl | rfl | rfl | rfl | rfl | rfl | rfl | rfl | rfl | rfl <;> rfl) (Nat.le_of_ble_eq_true rfl) (Nat.le_of_ble_eq_true rfl) (show decode code 0 = .ok (.new 8, 3) by decide +kernel) (fun q7 H hP hD hS => ?_)
  refine lv_dup hx hbx (show decode code 3 = .ok (.dup, 1) by decide +kernel) rfl ?_
  have hP : va_P (gD E) vwCl ([] ++ [(q7, .inr (7, [.null, .null, .null, .null, .null, .null, .null, .null, .null, .null, .null]))]) H := hP
  have hD : va_D (gA E) ([] ++ [(q7, .inr (7, [.null, .null, .null, .null, .null, .null, .null, .null, .null, .null, .null]))]) := hD
  have hPc := gj_P hP
  have hFc := gj_F hD hS hA
  have gcode : Cond.code yX7_init cX7_init 1 none ∈ gBig := gBig_of (gpc1 (List.mem_of_getElem? (i := 27) rfl)) rfl
  have cw := cwI (R := room_1) (s := s) (args := #[Value.ref b]) (own := R_law) (index := 173) (y := yX7_init) (bytes := cX7_init) (maxL := 1) (mc := 68) (ms := 1524) (rm := { frames := 3, cells := 68, slots := 1524, locals := 52 }) 0 hts2 (gGood_code gcode) rfl rfl rfl (hts _ (gpc1 (List.mem_of_getElem? (i := 1) rfl))) (hts _ (gpc1 (List.mem_of_getElem? (i := 25) rfl))) (hts _ (gpc1 (List.mem_of_getElem? (i := 26) rfl))) rfl (by decide +kernel) ⟨Nat.le_of_ble_eq_true rfl, Nat.le_of_ble_eq_true rfl⟩
  refine va_callv (va_runI (Ts := gBig) (As := []) (rest := [.ref q7]) ⟨hx, hbx, hmx, hown, hts2⟩ (gi_7 (gl E) E q7 H.size) cw ⟨fun a U g mk z => gi_bl2 z, fun U hU hW => ⟨rfl, by rw [hU], by rw [hU]; exact hPc, ⟨va_K.moved hW.alike hK, hNi.warm hW⟩⟩⟩ rfl rfl hl.1 rfl (lv_room (Nat.le_of_ble_eq_true rfl)) (show decode code 4 = .ok (.invokespecial 173, 3) by decide +kernel) ⟨Nat.le_of_ble_eq_true rfl, Nat.le_of_ble_eq_true rfl⟩) hS (fun q _ h => hFc q h) hFc (fun u7 t H1 locs ht hvm _ hB hz1 hk1 hS => ?_)
  obtain ⟨hP1, hD1⟩ := hB
  rw [ht] at hP1
  obtain ⟨hP, hD⟩ := gjoin (W0 := []) hP hD hFc hk1 hP1 hD1
  clear hPc hFc cw hP1 hD1 ht hvm hz1 hk1
  generalize H1 = H at hP hS ⊢
  have hP : va_P (gD E) vwCl (gzw_7 E q7 u7) H := hP
  have hD : va_D (gA E) (gzw_7 E q7 u7) := hD
  refine lv_astore_n hx hbx (show decode code 7 = .ok (.astore_n 1, 1) by decide +kernel) rfl hl (by decide) rfl (fun ls hl => ?_)
  have hl : lv_has ls 9 [(1, .ref q7), (0, .ref b)] := hl
  refine va_new (ci := 8) (fs := [.int 0, .int 0, .null, .null, .int 0, .null, .null, .int 0, .int 0, .int 0, .int 0, .int 0, .int 0, .int 0, .int 0, .int 0, .int 0, .null, .null, .int 0, .null, .int 0, .null, .null, .int 0, .null, .null, .null, .long 0, .long 0, .null, .null]) (C := RX8) (T := TX8) (N := 32) hx hbx hts2 (fun w hw => gBig_of (guw_8 w hw) (gug_8 w hw)) tyX8 tyX8_ok hown (hts _ (gpc5 (List.mem_of_getElem? (i := 227) rfl))) (hts _ (gpc5 (List.mem_of_getElem? (i := 228) rfl))) (hts _ (gpc1 (List.mem_of_getElem? (i := 9) rfl))) hK hP hD hS hA rfl (fun j hj => by rcases (show j = 0 ∨ j = 1 ∨ j = 2 ∨ j = 3 ∨ j = 4 ∨ j = 5 ∨ j = 6 ∨ j = 7 ∨ j = 8 ∨ j = 9 ∨ j = 10 ∨ j = 11 ∨ j = 12 ∨ j = 13 ∨ j = 14 ∨ j = 15 ∨ j = 16 ∨ j = 17 ∨ j = 18 ∨ j = 19 ∨ j = 20 ∨ j = 21 ∨ j = 22 ∨ j = 23 ∨ j = 24 ∨ j = 25 ∨ j = 26 ∨ j = 27 ∨ j = 28 ∨ j = 29 ∨ j = 30 ∨ j = 31 by omega) with rfl | rfl | rfl | rfl | rfl | rfl | rfl | rfl | rfl | rfl | rfl | rfl | rfl | rfl | rfl | rfl | rfl | rfl | rfl | rfl | rfl | rfl | rfl | rfl | rfl | rfl | rfl | rfl | rfl | rfl | rfl | rfl <;> rfl) (Nat.le_of_ble_eq_true rfl) (Nat.le_of_ble_eq_true rfl) (show decode code 8 = .ok (.new 174, 3) by decide +kernel) (fun q8 H hP hD hS => ?_)
  refine lv_dup hx hbx (show decode code 11 = .ok (.dup, 1) by decide +kernel) rfl ?_
  have hP : va_P (gD E) vwCl ((gzw_7 E q7 u7) ++ [(q8, .inr (8, [.int 0, .int 0, .null, .null, .int 0, .null, .null, .int 0, .int 0, .int 0, .int 0, .int 0, .int 0, .int 0, .int 0, .int 0, .int 0, .null, .null, .int 0, .null, .int 0, .null, .null, .int 0, .null, .null, .null, .long 0, .long 0, .null, .null]))]) H := hP
  have hD : va_D (gA E) ((gzw_7 E q7 u7) ++ [(q8, .inr (8, [.int 0, .int 0, .null, .null, .int 0, .null, .null, .int 0, .int 0, .int 0, .int 0, .int 0, .int 0, .int 0, .int 0, .int 0, .int 0, .null, .null, .int 0, .null, .int 0, .null, .null, .int 0, .null, .null, .null, .long 0, .long 0, .null, .null]))]) := hD
  have hPc := gj_P hP
  have hFc := gj_F hD hS hA
  have gcode : Cond.code yX8_init cX8_init 1 none ∈ gBig := gBig_of (gpc5 (List.mem_of_getElem? (i := 231) rfl)) rfl
  have cw := cwI (R := room_1) (s := s) (args := #[Value.ref b]) (own := R_law) (index := 176) (y := yX8_init) (bytes := cX8_init) (maxL := 1) (mc := 14) (ms := 6854) (rm := { frames := 1, cells := 14, slots := 6854, locals := 12 }) 0 hts2 (gGood_code gcode) rfl rfl rfl (hts _ (gpc1 (List.mem_of_getElem? (i := 9) rfl))) (hts _ (gpc5 (List.mem_of_getElem? (i := 229) rfl))) (hts _ (gpc5 (List.mem_of_getElem? (i := 230) rfl))) rfl (by decide +kernel) ⟨Nat.le_of_ble_eq_true rfl, Nat.le_of_ble_eq_true rfl⟩
  refine va_callv (va_runI (Ts := gBig) (As := []) (rest := [.ref q8]) ⟨hx, hbx, hmx, hown, hts2⟩ (gi_8 (gl E) E q8 H.size) cw ⟨fun a U g mk z => gi_bl1 z, fun U hU hW => ⟨rfl, by rw [hU], by rw [hU]; exact hPc, va_K.moved hW.alike hK⟩⟩ rfl rfl hl.1 rfl (lv_room (Nat.le_of_ble_eq_true rfl)) (show decode code 12 = .ok (.invokespecial 176, 3) by decide +kernel) ⟨Nat.le_of_ble_eq_true rfl, Nat.le_of_ble_eq_true rfl⟩) hS (fun q _ h => hFc q h) hFc (fun u8 t H1 locs ht hvm _ hB hz1 hk1 hS => ?_)
  obtain ⟨hP1, hD1⟩ := hB
  rw [ht] at hP1
  obtain ⟨hP, hD⟩ := gjoin (W0 := (gzw_7 E q7 u7)) hP hD hFc hk1 hP1 hD1
  clear hPc hFc cw hP1 hD1 ht hvm hz1 hk1
  generalize H1 = H at hP hS ⊢
  have hP : va_P (gD E) vwCl (gzw_7 E q7 u7 ++ gzw_8 E q8 u8) H := hP
  have hD : va_D (gA E) (gzw_7 E q7 u7 ++ gzw_8 E q8 u8) := hD
  refine lv_astore_n hx hbx (show decode code 15 = .ok (.astore_n 2, 1) by decide +kernel) rfl hl (by decide) rfl (fun ls hl => ?_)
  have hl : lv_has ls 9 [(2, .ref q8), (1, .ref q7), (0, .ref b)] := hl
  refine lv_iconst (v := 1) hx hbx (show decode code 16 = .ok (.iconst 1, 1) by decide +kernel) (by decide) ?_
  refine va_newa (atype := .long) (ty := .long) (a0 := (1, .inr (.inl (fun _ => 0)))) (N' := 1) hx hbx (hts _ (gpc1 (List.mem_of_getElem? (i := 105) rfl))) rfl hK hP hD hS hA (fun _ => rfl) (by decide) rfl (Nat.le_of_ble_eq_true rfl) (Nat.le_of_ble_eq_true rfl) (Nat.le_of_ble_eq_true rfl) (show decode code 17 = .ok (.newarray .long, 2) by decide +kernel) (fun x cA H hK2 hP hD hS => ?_)
  have hcA : cA = gca E 1 := gca_eq hK2 1 rfl rfl
  subst hcA
  clear hK2
  refine lv_astore_n hx hbx (show decode code 19 = .ok (.astore_n 3, 1) by decide +kernel) rfl hl (by decide) rfl (fun ls hl => ?_)
  have hl : lv_has ls 9 [(3, .ref x), (2, .ref q8), (1, .ref q7), (0, .ref b)] := hl
  refine lv_iconst (v := 1) hx hbx (show decode code 20 = .ok (.iconst 1, 1) by decide +kernel) (by decide) ?_
  refine va_newa (atype := .double) (ty := .double) (a0 := (1, .inr (.inr (.inr (.inl (fun _ => 0)))))) (N' := 1) hx hbx (hts _ (gpc8 (List.mem_of_getElem? (i := 113) rfl))) rfl hK hP hD hS hA (fun _ => rfl) (by decide) rfl (Nat.le_of_ble_eq_true rfl) (Nat.le_of_ble_eq_true rfl) (Nat.le_of_ble_eq_true rfl) (show decode code 21 = .ok (.newarray .double, 2) by decide +kernel) (fun y cA H hK2 hP hD hS => ?_)
  have hcA : cA = gca E 4 := gca_eq hK2 4 rfl rfl
  subst hcA
  clear hK2
  refine lv_astore hx hbx (show decode code 23 = .ok (.astore 4, 2) by decide +kernel) hl (by decide) rfl (fun ls hl => ?_)
  have hl : lv_has ls 9 [(4, .ref y), (3, .ref x), (2, .ref q8), (1, .ref q7), (0, .ref b)] := hl
  refine lv_iconst (v := 0) hx hbx (show decode code 25 = .ok (.iconst 0, 1) by decide +kernel) (by decide) ?_
  refine lv_istore hx hbx (show decode code 26 = .ok (.istore 5, 2) by decide +kernel) hl (by decide) rfl (fun ls hl => ?_)
  have hl : lv_has ls 9 [(5, .int 0), (4, .ref y), (3, .ref x), (2, .ref q8), (1, .ref q7), (0, .ref b)] := hl
  have hR := gRep0 (E := E) (q7 := q7) (u7 := u7) (q8 := q8) (u8 := u8) (x := x) (y := y) (H := H) (by unfold gW0; simpa only [List.append_assoc] using hP) (by unfold gW0; simpa only [List.append_assoc] using hD)
  have hloop := law_loop (E := E) (Q := fun v _ _ _ => v = .inl (.int (gi 1))) (X := fun _ _ _ _ => False) hL (fun _ _ _ => rfl) 86 8423 (by decide) (by decide) 513 0 gI0 gJ0 gB00 86 8423 rfl (by decide) (by omega) rl0 (Nat.le_refl _) (Nat.le_refl _)
  have hlm : (lls (gi ((6 * 0 : Nat) : Int))).map (gcp (gad0 E q7 u7 q8 u8 x y)) = [(0, .ref b), (1, .ref q7), (2, .ref q8), (3, .ref x), (4, .ref y), (5, .int 0)] := by
    show [(0, Value.ref (gax E (0, 0, 0))), (1, .ref q7), (2, .ref q8), (3, .ref x), (4, .ref y), (5, .int (gi ((6 * 0 : Nat) : Int)))] = _
    rw [e3]
    rfl
  have hl2 : lv_has ls (hml 313) ((lls (gi ((6 * 0 : Nat) : Int))).map (gcp (gad0 E q7 u7 q8 u8 x y))) := by
    refine ⟨hl.1, hl.2.1, fun q hq => hl.2.2 q ?_⟩
    rw [hlm] at hq
    simp only [List.mem_cons, List.not_mem_nil, or_false] at hq ⊢
    rcases hq with h | h | h | h | h | h <;> simp [h]
  have hT : c.exceptionTable.toList = tableOf (hht 313) := hT0.trans (by decide +kernel)
  have hv : ∀ q ∈ lls (gi ((6 * 0 : Nat) : Int)), gVv gB00 q.2 := by
    have hp : ∀ k, (k, 0, 0) ∈ gperm → gVv gB00 (.inr (k, 0, 0)) := fun k hk => Or.inr (Or.inr (Or.inr (by rw [gids0]; exact hk)))
    intro q hq
    simp only [lls, List.mem_cons, List.not_mem_nil, or_false] at hq
    rcases hq with rfl | rfl | rfl | rfl | rfl | rfl
    · exact Or.inl rfl
    · exact hp 3 (by decide +kernel)
    · exact hp 31 (by decide +kernel)
    · exact hp 46 (by decide +kernel)
    · exact hp 47 (by decide +kernel)
    · trivial
  have hroom : room_1 = hrm 313 := by decide +kernel
  refine gz_end (ad0 := gad0 E q7 u7 q8 u8 x y) (Bs := gB00) e2 ?_
  rw [hroom]
  exact hloop (by decide +kernel) (by decide +kernel) p e s m _ below meth c (gad0 E q7 u7 q8 u8 x y) gB00 ⟨hx, hbx, hrx, hmx, hown, hts2, hlocks, hE⟩ hT H _ ls (gad0 E q7 u7 q8 u8 x y) ⟨hR, hS, hl2, fun _ _ => rfl, fun n h => h, hv, fun v h => (by cases h)⟩
