/-! ===== the law from its entry (by wip/p61/p99w.py) ===== -/
theorem kw_200 : (Cond.classLink "ToeplitzLabLaw" 180 "ToeplitzLabLaw$Draws") ∈ gBig := gBig_of (gpc2 (List.mem_of_getElem? (i := 69) rfl)) rfl
theorem kw_201 : (Cond.instantiable "ToeplitzLabLaw$Draws" 2) ∈ gBig := gBig_of (gpc2 (List.mem_of_getElem? (i := 70) rfl)) rfl
theorem kw_202 : (Cond.methodLink "ToeplitzLabLaw" 255 yX8_init) ∈ gBig := gBig_of (gpc2 (List.mem_of_getElem? (i := 71) rfl)) rfl
theorem kw_203 : (Cond.instanceMethod yX8_init) ∈ gBig := gBig_of (gpc2 (List.mem_of_getElem? (i := 72) rfl)) rfl
theorem kw_204 : (Cond.code yX8_init cX8_init 2 none) ∈ gBig := gBig_of (gpc2 (List.mem_of_getElem? (i := 73) rfl)) rfl
theorem kw_205 : (Cond.classLink "ToeplitzLabLaw" 155 "ToeplitzLabLaw$Lab") ∈ gBig := gBig_of (gpc2 (List.mem_of_getElem? (i := 87) rfl)) rfl
theorem kw_206 : (Cond.instantiable "ToeplitzLabLaw$Lab" 6) ∈ gBig := gBig_of (gpc2 (List.mem_of_getElem? (i := 88) rfl)) rfl
theorem kw_207 : (Cond.methodLink "ToeplitzLabLaw" 258 yX9_init) ∈ gBig := gBig_of (gpc2 (List.mem_of_getElem? (i := 89) rfl)) rfl
theorem kw_208 : (Cond.instanceMethod yX9_init) ∈ gBig := gBig_of (gpc2 (List.mem_of_getElem? (i := 90) rfl)) rfl
theorem kw_209 : (Cond.code yX9_init cX9_init 4 none) ∈ gBig := gBig_of (gpc2 (List.mem_of_getElem? (i := 91) rfl)) rfl
theorem kw_210 : (Cond.classLink "ToeplitzLabLaw" 18 "ToeplitzLab") ∈ gBig := gBig_of (gpc1 (List.mem_of_getElem? (i := 29) rfl)) rfl
theorem kw_211 : (Cond.instantiable "ToeplitzLab" 11) ∈ gBig := gBig_of (gpc1 (List.mem_of_getElem? (i := 30) rfl)) rfl
theorem kw_212 : (Cond.code yX7_init cX7_init 1 none) ∈ gBig := gBig_of (gpc1 (List.mem_of_getElem? (i := 33) rfl)) rfl
theorem kw_213 : (Cond.methodLink "ToeplitzLabLaw" 261 yX7_init) ∈ gBig := gBig_of (gpc1 (List.mem_of_getElem? (i := 31) rfl)) rfl
theorem kw_214 : (Cond.instanceMethod yX7_init) ∈ gBig := gBig_of (gpc1 (List.mem_of_getElem? (i := 32) rfl)) rfl
def hpos (r r1 r2 n : Nat) : Nat → Nat
  | 0 => 0
  | 1 => 1
  | 2 => r
  | 3 => r1
  | 4 => r2
  | k + 5 => n + k
theorem hpos_inj {r r1 r2 n : Nat} (h1 : 3 ≤ r) (h2 : 3 ≤ r1) (h3 : 3 ≤ r2) (g1 : r < n) (g2 : r1 < n) (g3 : r2 < n) (k1 : r ≠ r1) (k2 : r ≠ r2) (k3 : r1 ≠ r2) {i j : Nat} (h : hpos r r1 r2 n i = hpos r r1 r2 n j) : i = j := by
  rcases i with _ | _ | _ | _ | _ | i <;> rcases j with _ | _ | _ | _ | _ | j <;> simp only [hpos] at h <;> omega
theorem hpos_ne {r r1 r2 n q1 : Nat} (h1 : 3 ≤ r) (h2 : 3 ≤ r1) (h3 : 3 ≤ r2) (g0 : 3 ≤ n) (gq : q1 < n) (hq : 3 ≤ q1) (k1 : r ≠ q1) (k2 : r1 ≠ q1) (k3 : r2 ≠ q1) (i : Nat) : hpos r r1 r2 n i ≠ 2 ∧ hpos r r1 r2 n i ≠ q1 := by
  rcases i with _ | _ | _ | _ | _ | i <;> simp only [hpos] <;> omega
theorem h_lab {I I' : gI} {N pr : Int} {fd f1 f2 : Nat → Int32} {a : Nat} (h : hLab I N pr fd f1 f2 a) (hq : QF I I') : hLab I' N pr fd f1 f2 a := by
  obtain ⟨i1, i2, i3, i4, i5, i6, i7, i8⟩ := h
  exact ⟨(hq 49 0 0 4 (by unfold KQ; omega)).trans i1, (hq 49 0 0 5 (by unfold KQ; omega)).trans i2, fun j hj => (hq 50 0 0 j (by unfold KQ; omega)).trans (i3 j hj), fun j hj => (hq 51 0 0 j (by unfold KQ; omega)).trans (i4 j hj), fun j hj => (hq 52 0 0 j (by unfold KQ; omega)).trans (i5 j hj), (hq 48 0 0 1 (by unfold KQ; omega)).trans i6, (hq 4 0 0 1 (by unfold KQ; omega)).trans i7, (hq 13 0 0 1 (by unfold KQ; omega)).trans i8⟩
theorem h_gv {k n : Nat} (h : (k, n, 0) ∈ gperm) : gVl gB00 (k, n, 0) := Or.inr (Or.inr (Or.inr (by rw [gids0]; exact h)))
/-- the world of the law's system and the class's, by other names -/
theorem h_ev1 {E : gEn} {s : State} {H : Heap} {tb ba : Nat} (hE : gEv E s H) (hex : gEx E = []) (h3 : tb < H.size) (h4 : ba < H.size) : gEv (gEm E (gax1 E tb) (gTx E) [tb, ba]) s H := by
  have hsub : ∀ q, gA (gEm E (gax1 E tb) (gTx E) [tb, ba]) q → gA E q := fun q hq => ⟨hq.1, by rw [hex]; exact List.not_mem_nil⟩
  have h12 := hE.2.2.2.2.2.2.2.2.2.2.2.2.1
  refine gEm_ev hE hsub (fun r g1 g2 g3 => by unfold gax1; rw [if_neg g1]) (fun q hq => ?_) ?_
  · simp only [List.mem_cons, List.not_mem_nil, or_false] at hq
    rcases hq with rfl | rfl
    · exact h3
    · exact h4
  · rw [show (fun k => gax1 E tb (2, k, 0)) = fun k => gax E (2, k, 0) from funext fun k => if_neg (fun z => by cases z), show (fun k => gax1 E tb (2, k, 1)) = fun k => gax E (2, k, 1) from funext fun k => if_neg (fun z => by cases z)]
    exact h12.narrow hsub

set_option maxRecDepth 100000 in
/-- the law -/
theorem h_law {E : gEn} {K : kEn} {p : Program} {e : Env} {s : State} {mI : MethodId} {args : Array Value} {below : List Frame} {meth : Method} {cc : Code} {LS : Array Slot} {b : Nat} (hx : p.tables.exec = Jvm.exec) (hb : cc.code = cL_law) (hr9 : meth.sig.returnType = hr 313) (hml : cc.maxLocals = 5) (hown : s.vm.findClass "ToeplitzLabLaw" = some mI.cls) (htk : ∀ w ∈ kBig, w.before args s = true) (hlk : meth.locks = false) (hT : cc.exceptionTable.toList = tableOf (hht 313))
    (hF : kF E K s s.heap) (hNi : gNi s) (hex : gEx E = []) (h0 : gB0 E = s.heap.size) (hbx : gax E (0, 0, 0) = b) (hgl : gL E ≤ 100000) (hl : lv_has LS 5 [(0, .ref b)]) :
    W p (gl E) e room_1 s mI args below meth cc s.heap [] 0 0 (hZ below s 600086 7301442) (F0 mI 0 LS []) := by
  have hts : ∀ w ∈ gBig, w.before args s = true := fun w h => htk w (kBig_g h)
  have hE := hF.1
  have hK := hE.1
  have hA : ∀ q : Nat, s.heap.size ≤ q → gA E q := fun q h => ⟨by rw [h0]; exact h, by rw [hex]; exact List.not_mem_nil⟩
  have hS : va_S (gA E) s.heap s.heap [] := va_S.rf
  have hP : va_P (gD E) vwCl [] s.heap := fun k q h => by simp at h
  have hD : va_D (gA E) [] := ⟨fun i j p q h => by simp at h, fun k q h => by simp at h⟩
  refine va_new (ci := 8) (fs := [.null, .int 0]) (C := RX8) (T := TX8) (N := 2) hx hb hts (fun w hw => gBig_of (guw_8 w hw) (gug_8 w hw)) tyX8 tyX8_ok hown (hts _ kw_200) (hts _ kw_201) (hts _ kw_161) hK hP hD hS hA rfl (fun j hj => by rcases (show j = 0 ∨ j = 1 by omega) with rfl | rfl <;> rfl) (Nat.le_of_ble_eq_true rfl) (Nat.le_of_ble_eq_true rfl) (show decode cL_law 0 = .ok (.new 180, 3) by decide +kernel) (fun d H hP hD hS => ?_)
  refine lv_dup hx hb (show decode cL_law 3 = .ok (.dup, 1) by decide +kernel) rfl ?_
  refine lv_aload_n hx hb (show decode cL_law 4 = .ok (.aload_n 0, 1) by decide +kernel) rfl (lv_at hl 0 rfl) ?_
  rw [show b = gax E (0, 0, 0) from hbx.symm]
  have hP : va_P (gD E) vwCl [(d, .inr (8, [.null, .int 0]))] H := hP
  have hD : va_D (gA E) [(d, .inr (8, [.null, .int 0]))] := hD
  refine k_callI (mc := 0) (ms := 0) (As := [.ref (gax E (0, 0, 0))]) (rest := [.ref d]) ⟨hx, hb, hml, hown, htk, hF⟩ (show decode cL_law 5 = .ok (.invokespecial 255, 3) by decide +kernel) ⟨kw_202, kw_203, kw_161, kw_204⟩ rfl (np := 1) (by decide +kernel) rfl ⟨Nat.le_of_ble_eq_true rfl, Nat.le_of_ble_eq_true rfl⟩ ⟨rfl, rfl⟩ hl.1 (Nat.le_of_ble_eq_true rfl) ⟨Nat.le_of_ble_eq_true rfl, Nat.le_of_ble_eq_true rfl⟩ hP hD hS (k_drawsNew (qd := 0) rfl) (fun v ws1 H locs hv hP hD hS => ?_)
  obtain ⟨rfl, e9⟩ := hv
  rw [e9] at hP hD
  clear e9
  refine lv_astore_n hx hb (show decode cL_law 8 = .ok (.astore_n 1, 1) by decide +kernel) rfl hl (by decide) rfl (fun LS hl => ?_)
  have hl : lv_has LS 5 [(1, .ref d), (0, .ref b)] := hl
  have hP : va_P (gD E) vwCl [(d, kD E 0)] H := hP
  have hD : va_D (gA E) [(d, kD E 0)] := hD
  refine va_new (ci := 9) (fs := [.null, .null, .null, .null, .int 0, .int 0]) (C := RX9) (T := TX9) (N := 6) hx hb hts (fun w hw => gBig_of (guw_9 w hw) (gug_9 w hw)) tyX9 tyX9_ok hown (hts _ kw_205) (hts _ kw_206) (hts _ kw_156) hK hP hD hS hA rfl (fun j hj => by rcases (show j = 0 ∨ j = 1 ∨ j = 2 ∨ j = 3 ∨ j = 4 ∨ j = 5 by omega) with rfl | rfl | rfl | rfl | rfl | rfl <;> rfl) (Nat.le_of_ble_eq_true rfl) (Nat.le_of_ble_eq_true rfl) (show decode cL_law 9 = .ok (.new 155, 3) by decide +kernel) (fun lb H hP hD hS => ?_)
  refine lv_dup hx hb (show decode cL_law 12 = .ok (.dup, 1) by decide +kernel) rfl ?_
  refine lv_aload_n hx hb (show decode cL_law 13 = .ok (.aload_n 1, 1) by decide +kernel) rfl (lv_at hl 0 rfl) ?_
  have hP : va_P (gD E) vwCl [(d, kD E 0), (lb, .inr (9, [.null, .null, .null, .null, .int 0, .int 0]))] H := hP
  have hD : va_D (gA E) [(d, kD E 0), (lb, .inr (9, [.null, .null, .null, .null, .int 0, .int 0]))] := hD
  refine k_callI (mc := 120) (ms := 76000) (As := [.ref d]) (rest := [.ref lb]) ⟨hx, hb, hml, hown, htk, hF⟩ (show decode cL_law 14 = .ok (.invokespecial 258, 3) by decide +kernel) ⟨kw_207, kw_208, kw_156, kw_209⟩ rfl (np := 1) (by decide +kernel) rfl ⟨Nat.le_of_ble_eq_true rfl, Nat.le_of_ble_eq_true rfl⟩ ⟨rfl, rfl⟩ hl.1 (Nat.le_of_ble_eq_true rfl) ⟨Nat.le_of_ble_eq_true rfl, Nat.le_of_ble_eq_true rfl⟩ hP hD hS (k_labNew hgl) (fun v ws1 H locs hv hP hD hS => ?_)
  obtain ⟨rfl, a, tb, da, sa, pa, r, r1, r2, N, pr, fd, f1, f2, t, hLw, n1, n2, n3, hN1, hN5, hpr, b1, b2, b3, ht, ha, ht3⟩ := hv
  refine lv_astore_n hx hb (show decode cL_law 17 = .ok (.astore_n 2, 1) by decide +kernel) rfl hl (by decide) rfl (fun LS hl => ?_)
  have hl : lv_has LS 5 [(2, .ref lb), (1, .ref d), (0, .ref b)] := hl
  refine va_new (ci := 7) (fs := [.null, .null, .null, .null, .null, .null, .null, .null, .null, .null, .null]) (C := RX7) (T := TX7) (N := 11) hx hb hts (fun w hw => gBig_of (guw_7 w hw) (gug_7 w hw)) tyX7 tyX7_ok hown (hts _ kw_210) (hts _ kw_211) (hts _ kw_183) hK hP hD hS hA rfl (fun j hj => by rcases (show j = 0 ∨ j = 1 ∨ j = 2 ∨ j = 3 ∨ j = 4 ∨ j = 5 ∨ j = 6 ∨ j = 7 ∨ j = 8 ∨ j = 9 ∨ j = 10 by omega) with rfl | rfl | rfl | rfl | rfl | rfl | rfl | rfl | rfl | rfl | rfl <;> rfl) (Nat.le_of_ble_eq_true rfl) (Nat.le_of_ble_eq_true rfl) (show decode cL_law 18 = .ok (.new 18, 3) by decide +kernel) (fun q7 H hP hD hS => ?_)
  refine lv_dup hx hb (show decode cL_law 21 = .ok (.dup, 1) by decide +kernel) rfl ?_
  have hPc := gj_P hP
  have hFc := gj_F hD hS hA
  have gcode : Cond.code yX7_init cX7_init 1 none ∈ gBig := kw_212
  have cw := cwI (R := room_1) (s := s) (args := args) (own := "ToeplitzLabLaw") (index := 261) (y := yX7_init) (bytes := cX7_init) (maxL := 1) (mc := 68) (ms := 1524) (rm := { frames := 3, cells := 68, slots := 1524, locals := 52 }) 0 hts (gGood_code gcode) rfl rfl rfl (hts _ kw_183) (hts _ kw_213) (hts _ kw_214) rfl (by decide +kernel) ⟨Nat.le_of_ble_eq_true rfl, Nat.le_of_ble_eq_true rfl⟩
  refine va_callv (va_runI (Ts := gBig) (As := []) (rest := [.ref q7]) ⟨hx, hb, hml, hown, hts⟩ (gi_7 (gl E) E q7 H.size) cw ⟨fun a U g mk z => gi_bl2 z, fun U hU hW => ⟨rfl, by rw [hU], by rw [hU]; exact hPc, ⟨va_K.moved hW.alike hK, hNi.warm hW⟩⟩⟩ rfl rfl hl.1 rfl (lv_room (Nat.le_of_ble_eq_true rfl)) (show decode cL_law 22 = .ok (.invokespecial 261, 3) by decide +kernel) ⟨Nat.le_of_ble_eq_true rfl, Nat.le_of_ble_eq_true rfl⟩) hS (fun q _ h => hFc q h) hFc (fun u7 t9 H1 locs ht9 hvm _ hB hz1 hk1 hS => ?_)
  obtain ⟨hP1, hD1⟩ := hB
  rw [ht9] at hP1
  obtain ⟨hP, hD⟩ := gjoin (W0 := ws1) hP hD hFc hk1 hP1 hD1
  clear hPc hFc cw hP1 hD1 ht9 hvm hz1 hk1
  generalize H1 = H at hP hS ⊢
  refine lv_astore_n hx hb (show decode cL_law 25 = .ok (.astore_n 3, 1) by decide +kernel) rfl hl (by decide) rfl (fun LS hl => ?_)
  have hl : lv_has LS 5 [(1, .ref d), (2, .ref lb), (3, .ref q7)] := lv_sub hl [2, 1, 0] rfl
  -- the world by its new names
  obtain ⟨w0, w1, ⟨q1, ba, m9, f9, hq1, hqa, hSb⟩, har⟩ := hLw
  obtain ⟨e1, e2⟩ := har (r, da, 13, fd) (by simp)
  obtain ⟨e3, e4⟩ := har (r1, sa, 7, f1) (by simp)
  obtain ⟨e5, e6⟩ := har (r2, pa, 7, f2) (by simp)
  have e7 := hqa (r, da, 13, fd) (by simp)
  have e8 := hqa (r1, sa, 7, f1) (by simp)
  have e9 := hqa (r2, pa, 7, f2) (by simp)
  change 3 ≤ r at e1
  change 3 ≤ r1 at e3
  change 3 ≤ r2 at e5
  change r ≠ q1 at e7
  change r1 ≠ q1 at e8
  change r2 ≠ q1 at e9
  have l2 := (List.getElem?_eq_some_iff.mp e2).1
  have l4 := (List.getElem?_eq_some_iff.mp e4).1
  have l6 := (List.getElem?_eq_some_iff.mp e6).1
  have lq := (List.getElem?_eq_some_iff.mp hSb.2.1).1
  have l0 := (List.getElem?_eq_some_iff.mp hSb.1).1
  change r < ws1.length at l2
  change r1 < ws1.length at l4
  change r2 < ws1.length at l6
  have hpk : ∀ (k : Nat) (q : Nat × va_E), (gW1 E tb d lb da sa pa q7 u7 N pr fd f1 f2 a)[k]? = some q → (ws1 ++ gzw_7 E q7 u7)[hpos r r1 r2 ws1.length k]? = some q := by
    intro k q hk
    rcases k with _ | _ | _ | _ | _ | k
    · rw [← hk]; show (ws1 ++ gzw_7 E q7 u7)[0]? = _; rw [List.getElem?_append_left (by omega)]; exact w0
    · rw [← hk]; show (ws1 ++ gzw_7 E q7 u7)[1]? = _; rw [List.getElem?_append_left (by omega)]; exact w1
    · rw [← hk]; show (ws1 ++ gzw_7 E q7 u7)[r]? = _; rw [List.getElem?_append_left l2]; exact e2
    · rw [← hk]; show (ws1 ++ gzw_7 E q7 u7)[r1]? = _; rw [List.getElem?_append_left l4]; exact e4
    · rw [← hk]; show (ws1 ++ gzw_7 E q7 u7)[r2]? = _; rw [List.getElem?_append_left l6]; exact e6
    · rw [← hk]; show (ws1 ++ gzw_7 E q7 u7)[ws1.length + k]? = _; rw [List.getElem?_append_right (by omega), Nat.add_sub_cancel_left]; rfl
  have hPW : va_P (gD E) vwCl (gW1 E tb d lb da sa pa q7 u7 N pr fd f1 f2 a) H := fun k q hk => hP _ q (hpk k q hk)
  have hDW : va_D (gA E) (gW1 E tb d lb da sa pa q7 u7 N pr fd f1 f2 a) := ⟨fun i j p q hi hj hpq => hpos_inj e1 e3 e5 l2 l4 l6 n1 n2 n3 (hD.1 _ _ p q (hpk i p hi) (hpk j q hj) hpq), fun k q hk => hD.2 _ q (hpk k q hk)⟩
  have g2 : (ws1 ++ gzw_7 E q7 u7)[2]? = some (tb, kB ba 0 t.length) := by rw [List.getElem?_append_left l0]; exact hSb.1
  have gq : (ws1 ++ gzw_7 E q7 u7)[q1]? = some (ba, .inl (gca E 3, m9, .inl f9)) := by rw [List.getElem?_append_left lq]; exact hSb.2.1
  have hne : ∀ (k : Nat) (q : Nat × va_E), (gW1 E tb d lb da sa pa q7 u7 N pr fd f1 f2 a)[k]? = some q → q.1 ≠ tb ∧ q.1 ≠ ba := fun k q hk => by
    obtain ⟨z1, z2⟩ := hpos_ne (r := r) (r1 := r1) (r2 := r2) (n := ws1.length) e1 e3 e5 (by omega) lq hq1 e7 e8 e9 k
    exact ⟨fun z => z1 (hD.1 _ _ q _ (hpk k q hk) g2 z), fun z => z2 (hD.1 _ _ q _ (hpk k q hk) gq z)⟩
  have hR := gRep1 (tb := tb) (ba := ba) hex hPW hDW hne
  have hB : va_P (gD E) vwCl [(tb, kB ba 0 t.length), (ba, .inl (gca E 3, m9, .inl f9))] H := fun k q hk => by
    match k with
    | 0 => cases hk; exact hP _ _ g2
    | 1 => cases hk; exact hP _ _ gq
  have hEH : gEv E s H := hE.to (State.WarmedH.refl s) hS.1 hS.2.1
  have hE1 := h_ev1 (tb := tb) (ba := ba) hEH hex (hP _ _ g2).lt (hP _ _ gq).lt
  have hg1 := hD.2 _ _ g2
  have hg2 := hD.2 _ _ gq
  have hnn : tb ≠ ba := fun z => by have := hD.1 _ _ _ _ g2 gq z; omega
  have hsub : ∀ q, gA (gEm E (gax1 E tb) (gTx E) [tb, ba]) q → gA E q := fun q hq => ⟨hq.1, by rw [hex]; exact List.not_mem_nil⟩
  have hz1 : ¬ gA (gEm E (gax1 E tb) (gTx E) [tb, ba]) tb := fun z => z.2 (by show tb ∈ [tb, ba]; simp)
  have hz2 : ¬ gA (gEm E (gax1 E tb) (gTx E) [tb, ba]) ba := fun z => z.2 (by show ba ∈ [tb, ba]; simp)
  have h3g : gVl gB00 (3, 0, 0) := h_gv (by decide +kernel)
  have h48 : gVl gB00 (48, 0, 0) := h_gv (by decide +kernel)
  have h49 : gVl gB00 (49, 0, 0) := h_gv (by decide +kernel)
  refine h_26 (E0 := E) (E1 := (gEm E (gax1 E tb) (gTx E) [tb, ba])) (I := (gI1 N pr fd f1 f2 a)) (J := gJ0) (B := gB00) (ad := (gad1 E tb d lb da sa pa q7 u7)) (d := d) (lb := lb) (o := q7) ⟨hx, hb, hml, hown, hts⟩ hE1 hR hS hsub hl rfl ⟨Nat.le_of_ble_eq_true rfl, Nat.le_of_ble_eq_true rfl⟩ (Nat.le_of_ble_eq_true rfl) (Nat.le_of_ble_eq_true rfl) hSys0 rfl rfl h3g ?_
  intro I' J' ad' H1 locs1 hQ hJ hR1 hzz hkk hS1 hxx
  have hB1 : va_P (gD E) vwCl [(tb, kB ba 0 t.length), (ba, .inl (gca E 3, m9, .inl f9))] H1 := hB.kept (fun k q hk => by
    match k with
    | 0 => cases hk; exact hkk _ (hP _ _ g2).lt hz1
    | 1 => cases hk; exact hkk _ (hP _ _ gq).lt hz2)
  have hlb : ad' (49, 0, 0) = lb := (hxx _ h49).trans rfl
  refine h_94 (E := E) (K := K) (E1 := (gEm E (gax1 E tb) (gTx E) [tb, ba])) (d := d) (lb := lb) (o := q7) hx hb hml hown htk hF rfl rfl hsub hR1 hB1 hSb.2.2.1 hSb.2.2.2.1 hSb.2.2.2.2.1 hSb.2.2.2.2.2 (by omega) hg1 hg2 hz1 hz2 hnn hS1 hl hlb (gV_ids h49 (by decide)) (show gax1 E tb (1, 2, 0) = tb from if_pos rfl) (Nat.le_of_ble_eq_true rfl) (Nat.le_of_ble_eq_true rfl) (Nat.le_of_ble_eq_true rfl) (Nat.le_of_ble_eq_true rfl) ?_
  intro s0 a2 g9 H2 locs2 hf2 hP2 hD2 hS2
  exact h_102 (E := E) (E1 := (gEm E (gax1 E tb) (gTx E) [tb, ba])) (K := K) (a := a) (d := d) (lb := lb) (o := q7) hx hb hr9 (hml.trans rfl) hown hts hlk hT hE hex h0 rfl (fun r => rfl) hR1.2.2.1 hR1.2.2.2 hP2 hD2 hS2 hf2 hl ((hxx _ h48).trans rfl) hlb ((hxx _ h3g).trans rfl) hgl h48 h49 h3g (h_lab hLab0 hQ) hB0 (fun _ _ _ => rfl) hN1 hN5 hpr b1 b2 b3 ht ht3 (by omega) (Nat.le_of_ble_eq_true rfl) (Nat.le_of_ble_eq_true rfl) (Nat.le_of_ble_eq_true rfl) (Nat.le_of_ble_eq_true rfl) (Nat.le_of_ble_eq_true rfl) (Nat.le_of_ble_eq_true rfl)
