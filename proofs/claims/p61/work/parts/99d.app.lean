/-! ===== appends by kit rows (by wip/p61/p99d.py) ===== -/
section KX
variable {E : gEn} {K : kEn} {p : Program} {e : Env} {R : Room} {s : State} {m : MethodId} {args : Array Value} {below : List Frame} {meth : Method} {cc : Code} {H : Heap} {locs : List Loc} {c w pc : Nat} {LS : Array Slot} {Qq : State → Prop} {ws : va_W} {P : Option Value → va_W → Prop} {mc ms : Nat}
/-- a call of super's method -/
theorem k_callX {n np ml ml2 b q0 ci : Nat} {qc : vw_C} {fs : List Value} {yn : MethodName} {bt bt2 : ByteArray} {ret2 : Option FieldType} {rm2 : Room} {As rest : List Value} (hC : p.tables.exec = Jvm.exec ∧ cc.code = bt ∧ cc.maxLocals = ml ∧ s.vm.findClass qc.1 = some m.cls ∧ (∀ w ∈ kBig, w.before args s = true) ∧ kF E K s s.heap)
    (hd : decode bt pc = .ok (.invokespecial n, 3)) (hl : Cond.methodLink qc.1 n yn ∈ gBig ∧ Cond.sameMethod yn.cls yn.cls yn.name yn.desc ∈ gBig ∧ Cond.superclass qc.1 yn.cls ∈ gBig ∧ Cond.instanceMethod yn ∈ gBig ∧ Cond.initialized yn.cls ∈ gBig ∧ Cond.code yn bt2 ml2 ret2 ∈ gBig)
    (he : yn.name ≠ "<init>" ∧ (parseMethodDescriptor yn.desc).map (fun d => d.parameters.length) = some np) (hn : As.length = np) (hm : rm2.frames + 1 ≤ R.frames ∧ 8 + (ml2 + 11) + rm2.locals ≤ R.locals) (hz : rm2.cells = mc ∧ rm2.slots = ms)
    (hq : vwCl[ci]? = some qc) (h0 : ws[q0]? = some (b, .inr (ci, fs)))
    (hsz : LS.size = ml) (hsm : (rest.map fun v => v.category).sum ≤ 8) (hc : c + mc ≤ R.cells ∧ w + ms ≤ R.slots) (hP : va_P (gD E) vwCl ws H) (hD : va_D (gA E) ws) (hS : va_S (gA E) s.heap H locs) (hM : kM E K yn bt2 ml2 ret2 rm2 (.ref b :: As) ws P mc ms)
    (kk : ∀ (v : Option Value) (ws1 : va_W) (H1 : Heap) (locs1 : List Loc), P v ws1 → va_P (gD E) vwCl ws1 H1 → va_D (gA E) ws1 → va_S (gA E) s.heap H1 locs1 → W p (gl E) e R s m args below meth cc H1 locs1 (c + mc) (w + ms) Qq (F0 m (pc + 3) LS (v.toList ++ rest))) : W p (gl E) e R s m args below meth cc H locs c w Qq (F0 m pc LS (As.reverse ++ .ref b :: rest)) := by
  obtain ⟨hx, hb, hml, hown, hts, hE⟩ := hC
  obtain ⟨l1, l2, l6, l3, l4, l5⟩ := hl
  have hK := hE.1.1
  have hgood : GoodIn kBig (va_wsSU qc.1 n yn (Cond.code yn bt2 ml2 ret2 :: kBig)) := by
    intro u hu
    unfold va_wsSU at hu
    rcases List.mem_append.mp hu with hu | hu
    · simp only [List.mem_cons, List.not_mem_nil, or_false] at hu
      rcases hu with rfl | rfl | rfl | rfl | rfl
      · exact ⟨kBig_g l1, gBig_good l1⟩
      · exact ⟨kBig_g l2, gBig_good l2⟩
      · exact ⟨kBig_g l6, gBig_good l6⟩
      · exact ⟨kBig_g l3, gBig_good l3⟩
      · exact ⟨kBig_g l4, gBig_good l4⟩
    · rcases List.mem_cons.mp hu with rfl | hu
      · exact ⟨kBig_g l5, gBig_good l5⟩
      · exact ⟨hu, kBig_good hu⟩
  have cw : va_CS R s args qc.1 n yn bt2 ml2 ret2 (Cond.code yn bt2 ml2 ret2 :: kBig) rm2 mc ms np := va_cwSU np hts hgood rfl hz.1 hz.2 he hm
  have hrun := va_runSU (Ts := kBig) (g := F0 m pc LS (As.reverse ++ .ref b :: rest)) (As := As) (rest := rest) (b := b) (H := H) (locs := locs) (cells := c) (slots := w) (e := e) (below := below) (meth := meth) (hK.1 ci _ hq).2 ⟨hx, hb, hml, hown, hts⟩ hM cw
    ⟨kPc_blind, va_recv hK hP hq h0, fun U hU hW => ⟨rfl, kPc_at hE hS hP hD hU hW⟩⟩ rfl hn hsz rfl (lv_room hsm) hd hc
  exact k_run hS hrun kk
end KX
/-- a builder that holds a text -/
def Sb (E : gEn) (ws : va_W) (q0 q1 q : Nat) (z : Int32) (t : List Int) (a m : Nat) (f : Nat → Int32) : Prop := ws[q0]? = some (q, kB a z t.length) ∧ ws[q1]? = some (a, .inl (gca E 3, m, .inl f)) ∧ (∀ i, fits .byte (.int (f i)) = true) ∧ t.length ≤ m ∧ m ≤ 30000 ∧ ∀ i, i < t.length → f i = gi (t.getD i 0)
/-- what a builder's method leaves as it is -/
def kFr (ws ws1 : va_W) (q0 q1 : Nat) : Prop := ws.length ≤ ws1.length ∧ ∀ k, k < ws.length → k ≠ q0 → k ≠ q1 → ws1[k]? = ws[k]?
theorem Sb.ne {E : gEn} {ws : va_W} {q0 q1 q a m : Nat} {z : Int32} {t : List Int} {f : Nat → Int32} (h : Sb E ws q0 q1 q z t a m f) : q0 ≠ q1 := by
  intro e
  obtain ⟨h1, h2, -⟩ := h
  rw [e, h2] at h1
  cases h1
theorem kcap_le {r m : Nat} (h : m < r) : kcap r m ≤ 2 * r ∧ r ≤ kcap r m := by
  unfold kcap
  omega
theorem k_ens {E : gEn} {ws ws1 : va_W} {q0 q1 q a m r : Nat} {z : Int32} {t : List Int} {f : Nat → Int32} (h : Sb E ws q0 q1 q z t a m f) (hr : r ≤ 350) (ht : t.length ≤ r)
    (hp : r ≤ m ∧ ws1 = ws ∨ m < r ∧ ∃ a2, ws1 = (ws ++ [(a2, (.inl (gca E 3, kcap r m, .inl (va_cpy f (fun _ => 0) 0 0 m)) : va_E))]).set q0 (q, kB a2 z t.length)) : ∃ q2 a2 m2 f2, Sb E ws1 q0 q2 q z t a2 m2 f2 ∧ r ≤ m2 ∧ kFr ws ws1 q0 q1 ∧ (q2 = q1 ∨ ws.length ≤ q2) := by
  rcases hp with ⟨h1, rfl⟩ | ⟨h1, a2, rfl⟩
  · exact ⟨q1, a, m, f, h, h1, ⟨Nat.le_refl _, fun _ _ _ _ => rfl⟩, Or.inl rfl⟩
  · obtain ⟨g1, g2, g3, g4, g5, g6⟩ := id h
    have hlt : q0 < ws.length := (List.getElem?_eq_some_iff.mp g1).1
    obtain ⟨k1, k2⟩ := kcap_le h1
    refine ⟨ws.length, a2, kcap r m, va_cpy f (fun _ => 0) 0 0 m, ⟨?_, ?_, fun i => ?_, by omega, by omega, fun i hi => ?_⟩, k2, ⟨?_, fun k hk hk0 _ => ?_⟩, Or.inr (Nat.le_refl _)⟩
    · rw [List.getElem?_set_self (by rw [List.length_append]; omega)]
    · rw [List.getElem?_set_ne (by omega), List.getElem?_append_right (Nat.le_refl _), Nat.sub_self]
      rfl
    · unfold va_cpy
      split
      · exact g3 _
      · exact (by decide : fits .byte (.int 0) = true)
    · rw [pk_cpy_in (Nat.zero_le _) (by omega), show 0 + (i - 0) = i by omega]
      exact g6 i hi
    · rw [List.length_set, List.length_append]
      omega
    · rw [List.getElem?_set_ne (Ne.symm hk0), List.getElem?_append_left hk]
/-- the byte of a letter -/
theorem kbyte : ∀ x : Nat, x < 128 → vp_nar .byte (gi (x : Int)) = gi (x : Int) ∧ fits .byte (.int (gi (x : Int))) = true ∧ (gi (x : Int)).toInt8.toInt32 = gi (x : Int) := by decide +kernel
/-- a letter is put behind the text -/
theorem Sb.put {E : gEn} {ws : va_W} {q0 q1 q a m : Nat} {z : Int32} {t : List Int} {f : Nat → Int32} {x : Nat} (h : Sb E ws q0 q1 q z t a m f) (hm : t.length < m) (hx : x < 128) : Sb E ((ws.set q0 (q, kB a z (t.length + 1))).set q1 (a, .inl (gca E 3, m, .inl (upd f t.length (gi (x : Int)))))) q0 q1 q z (t ++ [(x : Int)]) a m (upd f t.length (gi (x : Int))) := by
  have hne := h.ne
  obtain ⟨g1, g2, g3, g4, g5, g6⟩ := h
  have hl0 : q0 < ws.length := (List.getElem?_eq_some_iff.mp g1).1
  have hl1 : q1 < ws.length := (List.getElem?_eq_some_iff.mp g2).1
  have hlen : (t ++ [(x : Int)]).length = t.length + 1 := by rw [List.length_append]; rfl
  refine ⟨?_, ?_, fun i => ?_, by omega, g5, fun i hi => ?_⟩
  · rw [List.getElem?_set_ne (Ne.symm hne), List.getElem?_set_self hl0, hlen]
  · rw [List.getElem?_set_self (by rw [List.length_set]; exact hl1)]
  · unfold upd
    split
    · exact (kbyte x hx).2.1
    · exact g3 i
  · rw [hlen] at hi
    by_cases e : i = t.length
    · subst e
      rw [pk_us, List.getD_eq_getElem?_getD, List.getElem?_append_right (Nat.le_refl _), Nat.sub_self]
      rfl
    · rw [pk_un e, g6 i (by omega), List.getD_eq_getElem?_getD, List.getD_eq_getElem?_getD, List.getElem?_append_left (by omega)]
theorem kFr.put {ws ws1 : va_W} {q0 q1 q2 : Nat} {x y : Nat × va_E} (h : kFr ws ws1 q0 q1) (hq : q2 = q1 ∨ ws.length ≤ q2) : kFr ws ((ws1.set q0 x).set q2 y) q0 q1 := by
  refine ⟨by rw [List.length_set, List.length_set]; exact h.1, fun k hk h0 h1 => ?_⟩
  rw [List.getElem?_set_ne (by omega), List.getElem?_set_ne (by omega)]
  exact h.2 k hk h0 h1
theorem kw_30 : (Cond.fieldLink "java/lang/AbstractStringBuilder" 79 "java/lang/AbstractStringBuilder" "count" "I") ∈ gBig := gBig_of (gpc3 (List.mem_of_getElem? (i := 2) rfl)) rfl
theorem kw_31 : (Cond.methodLink "java/lang/AbstractStringBuilder" 100 yJ5_ensureCapacityInternal_d00df) ∈ gBig := gBig_of (gpc2 (List.mem_of_getElem? (i := 140) rfl)) rfl
theorem kw_32 : (Cond.sameMethod "java/lang/AbstractStringBuilder" "java/lang/AbstractStringBuilder" "ensureCapacityInternal" "(I)V") ∈ gBig := gBig_of (gpc6 (List.mem_of_getElem? (i := 209) rfl)) rfl
theorem kw_33 : (Cond.instanceMethod yJ5_ensureCapacityInternal_d00df) ∈ gBig := gBig_of (gpc2 (List.mem_of_getElem? (i := 142) rfl)) rfl
theorem kw_34 : (Cond.code yJ5_ensureCapacityInternal_d00df cJ5_ensureCapacityInternal_d00df 3 none) ∈ gBig := gBig_of (gpc2 (List.mem_of_getElem? (i := 143) rfl)) rfl
theorem kw_35 : (Cond.methodLink "java/lang/AbstractStringBuilder" 83 yJ5_isLatin1_aae02) ∈ gBig := gBig_of (gpc2 (List.mem_of_getElem? (i := 174) rfl)) rfl
theorem kw_36 : (Cond.sameMethod "java/lang/AbstractStringBuilder" "java/lang/AbstractStringBuilder" "isLatin1" "()Z") ∈ gBig := gBig_of (gpc2 (List.mem_of_getElem? (i := 176) rfl)) rfl
theorem kw_37 : (Cond.instanceMethod yJ5_isLatin1_aae02) ∈ gBig := gBig_of (gpc2 (List.mem_of_getElem? (i := 175) rfl)) rfl
theorem kw_38 : (Cond.code yJ5_isLatin1_aae02 cJ5_isLatin1_aae02 1 (some .boolean)) ∈ gBig := gBig_of (gpc2 (List.mem_of_getElem? (i := 178) rfl)) rfl
theorem kw_39 : (Cond.selects "java/lang/StringBuilder" yJ5_isLatin1_aae02 yJ5_isLatin1_aae02) ∈ gBig := gBig_of (gpc2 (List.mem_of_getElem? (i := 177) rfl)) rfl
theorem kw_40 : (Cond.methodLink "java/lang/AbstractStringBuilder" 191 yJ1_canEncode_fc78d) ∈ gBig := gBig_of (gpc3 (List.mem_of_getElem? (i := 52) rfl)) rfl
theorem kw_41 : (Cond.static yJ1_canEncode_fc78d) ∈ gBig := gBig_of (gpc3 (List.mem_of_getElem? (i := 53) rfl)) rfl
theorem kw_42 : (Cond.initialized "java/lang/StringLatin1") ∈ gBig := gBig_of (gpc1 (List.mem_of_getElem? (i := 12) rfl)) rfl
theorem kw_43 : (Cond.code yJ1_canEncode_fc78d cJ1_canEncode_fc78d 1 (some .boolean)) ∈ gBig := gBig_of (gpc3 (List.mem_of_getElem? (i := 54) rfl)) rfl
theorem kw_44 : (Cond.methodLink "java/lang/StringBuilder" 50 yJ5_append_3fe6f) ∈ gBig := gBig_of (gpc3 (List.mem_of_getElem? (i := 49) rfl)) rfl
theorem kw_45 : (Cond.sameMethod "java/lang/AbstractStringBuilder" "java/lang/AbstractStringBuilder" "append" "(C)Ljava/lang/AbstractStringBuilder;") ∈ gBig := gBig_of (gpc6 (List.mem_of_getElem? (i := 215) rfl)) rfl
theorem kw_46 : (Cond.superclass "java/lang/StringBuilder" "java/lang/AbstractStringBuilder") ∈ gBig := gBig_of (gpc2 (List.mem_of_getElem? (i := 134) rfl)) rfl
theorem kw_47 : (Cond.instanceMethod yJ5_append_3fe6f) ∈ gBig := gBig_of (gpc3 (List.mem_of_getElem? (i := 50) rfl)) rfl
theorem kw_48 : (Cond.code yJ5_append_3fe6f cJ5_append_3fe6f 2 (some (.object "java/lang/AbstractStringBuilder"))) ∈ gBig := gBig_of (gpc3 (List.mem_of_getElem? (i := 51) rfl)) rfl
theorem kw_49 : (Cond.fieldLink "java/lang/Integer" 83 "java/lang/Integer" "DigitOnes" "[B") ∈ gBig := gBig_of (gpc3 (List.mem_of_getElem? (i := 27) rfl)) rfl
theorem kw_50 : (Cond.fieldLink "java/lang/Integer" 87 "java/lang/Integer" "DigitTens" "[B") ∈ gBig := gBig_of (gpc3 (List.mem_of_getElem? (i := 29) rfl)) rfl
/-- StringLatin1.canEncode -/
theorem k_canEncode {E : gEn} {K : kEn} {ws : va_W} {x : Nat} (h : x < 128) : kM E K yJ1_canEncode_fc78d cJ1_canEncode_fc78d 1 (some .boolean) { frames := 1, cells := 0, slots := 0, locals := 20 } [.int (gi (x : Int))] ws (fun v ws1 => v = some (.int 1) ∧ ws1 = ws) 0 0 := by
  refine kM_of (by decide) (Nat.le_of_ble_eq_true rfl) ?_
  intro p e s mI args below meth cc hC H locs LS hP hD hS hA hl
  obtain ⟨hx, hb, hr, hml, hown, htk, hlk, hF, hnm⟩ := hC
  have hts : ∀ w ∈ gBig, w.before args s = true := fun w h => htk w (kBig_g h)
  have hE := hF.1
  have hK := hE.1
  have hl : lv_has LS 1 [(0, .int (gi (x : Int)))] := hl
  refine lv_iload_n hx hb (show decode cJ1_canEncode_fc78d 0 = .ok (.iload_n 0, 1) by decide +kernel) rfl (lv_at hl 0 rfl) ?_
  refine lv_sipush (v := 255) hx hb (show decode cJ1_canEncode_fc78d 1 = .ok (.sipush 255, 3) by decide +kernel) (by decide) ?_
  refine lv_icmp_gt hx hb (show decode cJ1_canEncode_fc78d 4 = .ok (.if_icmp .gt 7, 3) by decide +kernel) (tgt := 11) rfl (fun z => by rw [show (255 : Int32) = gi 255 from rfl, gi_lt (by omega) (by omega) (by omega) (by omega)] at z; omega) (fun _ => ?_)
  refine lv_iconst (v := 1) hx hb (show decode cJ1_canEncode_fc78d 7 = .ok (.iconst 1, 1) by decide +kernel) (by decide) ?_
  refine lv_goto hx hb (show decode cJ1_canEncode_fc78d 8 = .ok (.goto 4, 3) by decide +kernel) (tgt := 12) rfl ?_
  exact k_zret hx hb hr hlk (by decide) (by decide +kernel) hP hD hS ⟨rfl, rfl⟩

/-- AbstractStringBuilder.append(char) -/
theorem k_appC {E : gEn} {K : kEn} {ws : va_W} {q0 q1 q a m x : Nat} {z : Int32} {t : List Int} {f : Nat → Int32} (hSb : Sb E ws q0 q1 q z t a m f) (ht : t.length ≤ 349) (hx9 : x < 128) : kM E K yJ5_append_3fe6f cJ5_append_3fe6f 2 (some (.object "java/lang/AbstractStringBuilder")) { frames := 4, cells := 1, slots := 700, locals := 130 } [.ref q, .int (gi (x : Int))] ws (fun v ws1 => v = some (.ref q) ∧ ∃ q2 a2 m2 f2, Sb E ws1 q0 q2 q z (t ++ [(x : Int)]) a2 m2 f2 ∧ kFr ws ws1 q0 q1 ∧ (q2 = q1 ∨ ws.length ≤ q2)) 1 700 := by
  refine kM_of (by decide) (Nat.le_of_ble_eq_true rfl) ?_
  intro p e s mI args below meth cc hC H locs LS hP hD hS hA hl
  obtain ⟨hx, hb, hr, hml, hown, htk, hlk, hF, hnm⟩ := hC
  have hts : ∀ w ∈ gBig, w.before args s = true := fun w h => htk w (kBig_g h)
  have hE := hF.1
  have hK := hE.1
  have hl : lv_has LS 2 [(0, .ref q), (1, .int (gi (x : Int)))] := hl
  obtain ⟨h0, h1, hfit, hlm, hm9, hfx⟩ := id hSb
  have e1 : gi (t.length : Int) + 1 = gi ((t.length + 1 : Nat) : Int) := by rw [show (1 : Int32) = gi 1 from rfl, gi_add]; rfl
  refine lv_aload_n hx hb (show decode cJ5_append_3fe6f 0 = .ok (.aload_n 0, 1) by decide +kernel) rfl (lv_at hl 0 rfl) ?_
  refine lv_aload_n hx hb (show decode cJ5_append_3fe6f 1 = .ok (.aload_n 0, 1) by decide +kernel) rfl (lv_at hl 0 rfl) ?_
  refine va_get (D := gD E) (ci := 11) (C := RJ4) (T := TJ4) (N := 4) hx hb hts kgb hown hK hP q0 h0 rfl 3 (by decide) (hts _ kw_30) (fun _ h9 => h9) rfl (show decode cJ5_append_3fe6f 2 = .ok (.getfield 79, 3) by decide +kernel) ?_
  refine lv_iconst (v := 1) hx hb (show decode cJ5_append_3fe6f 5 = .ok (.iconst 1, 1) by decide +kernel) (by decide) ?_
  refine lv_iadd hx hb (show decode cJ5_append_3fe6f 6 = .ok (.iadd, 1) by decide +kernel) ?_
  rw [e1]
  refine k_callU (C := RJ4) (As := [.int (gi ((t.length + 1 : Nat) : Int))]) (rest := []) ⟨hx, hb, hml, hown, htk, hF⟩ (show decode cJ5_append_3fe6f 7 = .ok (.invokevirtual 100, 3) by decide +kernel) ⟨kw_31, kw_32, kw_33, kw_24, kw_34⟩ kSel_0 (np := 1) (by decide +kernel) rfl ⟨Nat.le_of_ble_eq_true rfl, Nat.le_of_ble_eq_true rfl⟩ ⟨rfl, rfl⟩ (va_recv hK hP (ci := 11) rfl h0) hl.1 (Nat.le_of_ble_eq_true rfl) ⟨Nat.le_of_ble_eq_true rfl, Nat.le_of_ble_eq_true rfl⟩ hP hD hS (k_ensure (S := 700) h0 h1 hfit hm9 (by omega) (by by_cases hh : t.length + 1 ≤ m; exact Or.inl hh; exact Or.inr (Nat.le_trans (kcap_le (by omega)).1 (by omega)))) (fun v ws1 H locs hv hP hD hS => ?_)
  obtain ⟨rfl, hp⟩ := hv
  obtain ⟨q2, a2, m2, f2, hS2, hr2, hF2, hq2⟩ := k_ens (r := t.length + 1) hSb (by omega) (by omega) hp
  obtain ⟨h0, h1, hfit2, hlm2, hm92, hfx2⟩ := id hS2
  refine lv_aload_n hx hb (show decode cJ5_append_3fe6f 10 = .ok (.aload_n 0, 1) by decide +kernel) rfl (lv_at hl 0 rfl) ?_
  refine k_callU (C := RJ4) (As := []) (rest := []) ⟨hx, hb, hml, hown, htk, hF⟩ (show decode cJ5_append_3fe6f 11 = .ok (.invokevirtual 83, 3) by decide +kernel) ⟨kw_35, kw_36, kw_37, kw_24, kw_38⟩ (kBig_g kw_39) (np := 0) (by decide +kernel) rfl ⟨Nat.le_of_ble_eq_true rfl, Nat.le_of_ble_eq_true rfl⟩ ⟨rfl, rfl⟩ (va_recv hK hP (ci := 11) rfl h0) hl.1 (Nat.le_of_ble_eq_true rfl) ⟨Nat.le_of_ble_eq_true rfl, Nat.le_of_ble_eq_true rfl⟩ hP hD hS (k_isLatin1 h0) (fun v ws9 H locs hv hP hD hS => ?_)
  obtain ⟨rfl, e9⟩ := hv
  rw [e9] at hP hD
  clear e9
  refine lv_if_eq hx hb (show decode cJ5_append_3fe6f 14 = .ok (.ifCond .eq 31, 3) by decide +kernel) (tgt := 45) rfl (fun z => absurd z (by decide)) (fun _ => ?_)
  refine lv_iload_n hx hb (show decode cJ5_append_3fe6f 17 = .ok (.iload_n 1, 1) by decide +kernel) rfl (lv_at hl 1 rfl) ?_
  refine k_callS (As := [.int (gi (x : Int))]) (rest := []) ⟨hx, hb, hml, hown, htk, hF⟩ (show decode cJ5_append_3fe6f 18 = .ok (.invokestatic 191, 3) by decide +kernel) ⟨kw_40, kw_41, kw_42, kw_43⟩ (np := 1) (by decide +kernel) rfl ⟨Nat.le_of_ble_eq_true rfl, Nat.le_of_ble_eq_true rfl⟩ ⟨rfl, rfl⟩ hl.1 (Nat.le_of_ble_eq_true rfl) ⟨Nat.le_of_ble_eq_true rfl, Nat.le_of_ble_eq_true rfl⟩ hP hD hS (k_canEncode hx9) (fun v ws9 H locs hv hP hD hS => ?_)
  obtain ⟨rfl, e9⟩ := hv
  rw [e9] at hP hD
  clear e9
  refine lv_if_eq hx hb (show decode cJ5_append_3fe6f 21 = .ok (.ifCond .eq 24, 3) by decide +kernel) (tgt := 45) rfl (fun z => absurd z (by decide)) (fun _ => ?_)
  refine lv_aload_n hx hb (show decode cJ5_append_3fe6f 24 = .ok (.aload_n 0, 1) by decide +kernel) rfl (lv_at hl 0 rfl) ?_
  refine va_get (D := gD E) (ci := 11) (C := RJ4) (T := TJ4) (N := 4) hx hb hts kgb hown hK hP q0 h0 rfl 0 (by decide) (hts _ kw_15) (fun _ h9 => h9) rfl (show decode cJ5_append_3fe6f 25 = .ok (.getfield 15, 3) by decide +kernel) ?_
  refine lv_aload_n hx hb (show decode cJ5_append_3fe6f 28 = .ok (.aload_n 0, 1) by decide +kernel) rfl (lv_at hl 0 rfl) ?_
  refine lv_dup hx hb (show decode cJ5_append_3fe6f 29 = .ok (.dup, 1) by decide +kernel) rfl ?_
  refine va_get (D := gD E) (ci := 11) (C := RJ4) (T := TJ4) (N := 4) hx hb hts kgb hown hK hP q0 h0 rfl 3 (by decide) (hts _ kw_30) (fun _ h9 => h9) rfl (show decode cJ5_append_3fe6f 30 = .ok (.getfield 79, 3) by decide +kernel) ?_
  refine lv_dup_x1 hx hb (show decode cJ5_append_3fe6f 33 = .ok (.dup_x1, 1) by decide +kernel) rfl rfl ?_
  refine lv_iconst (v := 1) hx hb (show decode cJ5_append_3fe6f 34 = .ok (.iconst 1, 1) by decide +kernel) (by decide) ?_
  refine lv_iadd hx hb (show decode cJ5_append_3fe6f 35 = .ok (.iadd, 1) by decide +kernel) ?_
  rw [e1]
  refine va_put (D := gD E) (ci := 11) (v := .int (gi ((t.length + 1 : Nat) : Int))) (ty := .int) (C := RJ4) (T := TJ4) (N := 4) hx hb hts kgb ktyJ4 ktyJ4_ok (by decide +kernel) hown hK hP hD hS q0 h0 rfl 3 (by decide) (hts _ kw_30) (fun _ h9 => h9) rfl (by decide +kernel) rfl rfl (Nat.le_of_ble_eq_true rfl) (show decode cJ5_append_3fe6f 36 = .ok (.putfield 79, 3) by decide +kernel) (fun H locs hP hD hS => ?_)
  refine lv_iload_n hx hb (show decode cJ5_append_3fe6f 39 = .ok (.iload_n 1, 1) by decide +kernel) rfl (lv_at hl 1 rfl) ?_
  refine lv_i2b hx hb (show decode cJ5_append_3fe6f 40 = .ok (.i2b, 1) by decide +kernel) (kbyte x hx9).2.2 ?_
  have h1' : (ws1.set q0 (q, kB a2 z (t.length + 1)))[q2]? = some (a2, .inl (gca E 3, m2, .inl f2)) := by rw [List.getElem?_set_ne hS2.ne]; exact h1
  refine va_bast hx hb hK hP hD hS q2 3 h1' rfl (gvp (by omega) (by omega) (by omega)) (show decode cJ5_append_3fe6f 41 = .ok (.bastore, 1) by decide +kernel) (fun H locs hP hD hS => ?_)
  rw [gi_c (by omega) (by omega), Int.toNat_natCast, (kbyte x hx9).1] at hP hD
  refine lv_goto hx hb (show decode cJ5_append_3fe6f 42 = .ok (.goto 33, 3) by decide +kernel) (tgt := 75) rfl ?_
  refine lv_aload_n hx hb (show decode cJ5_append_3fe6f 75 = .ok (.aload_n 0, 1) by decide +kernel) rfl (lv_at hl 0 rfl) ?_
  exact k_aret hx hb hr (Or.inl ⟨_, rfl⟩) hlk (by decide +kernel) hP hD hS ⟨rfl, q2, a2, m2, _, hS2.put (by omega) hx9, hF2.put hq2, hq2⟩

/-- StringBuilder.append(char) -/
theorem k_sbC {E : gEn} {K : kEn} {ws : va_W} {q0 q1 q a m x : Nat} {z : Int32} {t : List Int} {f : Nat → Int32} (hSb : Sb E ws q0 q1 q z t a m f) (ht : t.length ≤ 349) (hx9 : x < 128) : kM E K yJ4_append_cf468 cJ4_append_cf468 2 (some (.object "java/lang/StringBuilder")) { frames := 5, cells := 1, slots := 700, locals := 160 } [.ref q, .int (gi (x : Int))] ws (fun v ws1 => v = some (.ref q) ∧ ∃ q2 a2 m2 f2, Sb E ws1 q0 q2 q z (t ++ [(x : Int)]) a2 m2 f2 ∧ kFr ws ws1 q0 q1 ∧ (q2 = q1 ∨ ws.length ≤ q2)) 1 700 := by
  refine kM_of (by decide) (Nat.le_of_ble_eq_true rfl) ?_
  intro p e s mI args below meth cc hC H locs LS hP hD hS hA hl
  obtain ⟨hx, hb, hr, hml, hown, htk, hlk, hF, hnm⟩ := hC
  have hts : ∀ w ∈ gBig, w.before args s = true := fun w h => htk w (kBig_g h)
  have hE := hF.1
  have hK := hE.1
  have hl : lv_has LS 2 [(0, .ref q), (1, .int (gi (x : Int)))] := hl
  refine lv_aload_n hx hb (show decode cJ4_append_cf468 0 = .ok (.aload_n 0, 1) by decide +kernel) rfl (lv_at hl 0 rfl) ?_
  refine lv_iload_n hx hb (show decode cJ4_append_cf468 1 = .ok (.iload_n 1, 1) by decide +kernel) rfl (lv_at hl 1 rfl) ?_
  refine k_callX (qc := (RJ4, TJ4, 4)) (ci := 11) (As := [.int (gi (x : Int))]) (rest := []) ⟨hx, hb, hml, hown, htk, hF⟩ (show decode cJ4_append_cf468 2 = .ok (.invokespecial 50, 3) by decide +kernel) ⟨kw_44, kw_45, kw_46, kw_47, kw_24, kw_48⟩ (np := 1) (by decide +kernel) rfl ⟨Nat.le_of_ble_eq_true rfl, Nat.le_of_ble_eq_true rfl⟩ ⟨rfl, rfl⟩ rfl hSb.1 hl.1 (Nat.le_of_ble_eq_true rfl) ⟨Nat.le_of_ble_eq_true rfl, Nat.le_of_ble_eq_true rfl⟩ hP hD hS (k_appC hSb ht hx9) (fun v ws1 H locs hv hP hD hS => ?_)
  obtain ⟨rfl, q2, a2, m2, f2, hS2, hF2, hq2⟩ := hv
  refine lv_pop hx hb (show decode cJ4_append_cf468 5 = .ok (.pop, 1) by decide +kernel) rfl ?_
  refine lv_aload_n hx hb (show decode cJ4_append_cf468 6 = .ok (.aload_n 0, 1) by decide +kernel) rfl (lv_at hl 0 rfl) ?_
  exact k_aret hx hb hr (Or.inl ⟨_, rfl⟩) hlk (by decide +kernel) hP hD hS ⟨rfl, q2, a2, m2, f2, hS2, hF2, hq2⟩

def ksz (x : Nat) : Nat := if x < 10 then 1 else 2
/-- Integer.stringSize -/
theorem k_stringSize {E : gEn} {K : kEn} {ws : va_W} {x : Nat} (h : x < 100) : kM E K yJ6_stringSize_0f7a4 cJ6_stringSize_0f7a4 4 (some .int) { frames := 1, cells := 0, slots := 0, locals := 20 } [.int (gi (x : Int))] ws (fun v ws1 => v = some (.int (gi (ksz x : Int))) ∧ ws1 = ws) 0 0 := by
  refine kM_of (by decide) (Nat.le_of_ble_eq_true rfl) ?_
  intro p e s mI args below meth cc hC H locs LS hP hD hS hA hl
  obtain ⟨hx, hb, hr, hml, hown, htk, hlk, hF, hnm⟩ := hC
  have hts : ∀ w ∈ gBig, w.before args s = true := fun w h => htk w (kBig_g h)
  have hE := hF.1
  have hK := hE.1
  have hl : lv_has LS 4 [(0, .int (gi (x : Int)))] := hl
  refine lv_iconst (v := 1) hx hb (show decode cJ6_stringSize_0f7a4 0 = .ok (.iconst 1, 1) by decide +kernel) (by decide) ?_
  refine lv_istore_n hx hb (show decode cJ6_stringSize_0f7a4 1 = .ok (.istore_n 1, 1) by decide +kernel) rfl hl (by decide) rfl (fun LS hl => ?_)
  have hl : lv_has LS 4 [(1, .int 1), (0, .int (gi (x : Int)))] := hl
  refine lv_iload_n hx hb (show decode cJ6_stringSize_0f7a4 2 = .ok (.iload_n 0, 1) by decide +kernel) rfl (lv_at hl 1 rfl) ?_
  refine lv_if_lt hx hb (show decode cJ6_stringSize_0f7a4 3 = .ok (.ifCond .lt 8, 3) by decide +kernel) (tgt := 11) rfl (fun z => by rw [show (0 : Int32) = gi 0 from rfl, gi_lt (by omega) (by omega) (by omega) (by omega)] at z; omega) (fun _ => ?_)
  refine lv_iconst (v := 0) hx hb (show decode cJ6_stringSize_0f7a4 6 = .ok (.iconst 0, 1) by decide +kernel) (by decide) ?_
  refine lv_istore_n hx hb (show decode cJ6_stringSize_0f7a4 7 = .ok (.istore_n 1, 1) by decide +kernel) rfl hl (by decide) rfl (fun LS hl => ?_)
  have hl : lv_has LS 4 [(1, .int 0), (0, .int (gi (x : Int)))] := hl
  refine lv_iload_n hx hb (show decode cJ6_stringSize_0f7a4 8 = .ok (.iload_n 0, 1) by decide +kernel) rfl (lv_at hl 1 rfl) ?_
  refine lv_ineg hx hb (show decode cJ6_stringSize_0f7a4 9 = .ok (.ineg, 1) by decide +kernel) ?_
  rw [gi_neg]
  refine lv_istore_n hx hb (show decode cJ6_stringSize_0f7a4 10 = .ok (.istore_n 0, 1) by decide +kernel) rfl hl (by decide) rfl (fun LS hl => ?_)
  have hl : lv_has LS 4 [(0, .int (gi (-(x : Int)))), (1, .int 0)] := hl
  refine lv_bipush (v := (-10)) hx hb (show decode cJ6_stringSize_0f7a4 11 = .ok (.bipush (-10), 2) by decide +kernel) (by decide) ?_
  refine lv_istore_n hx hb (show decode cJ6_stringSize_0f7a4 13 = .ok (.istore_n 2, 1) by decide +kernel) rfl hl (by decide) rfl (fun LS hl => ?_)
  have hl : lv_has LS 4 [(2, .int (-10)), (0, .int (gi (-(x : Int)))), (1, .int 0)] := hl
  refine lv_iconst (v := 1) hx hb (show decode cJ6_stringSize_0f7a4 14 = .ok (.iconst 1, 1) by decide +kernel) (by decide) ?_
  refine lv_istore_n hx hb (show decode cJ6_stringSize_0f7a4 15 = .ok (.istore_n 3, 1) by decide +kernel) rfl hl (by decide) rfl (fun LS hl => ?_)
  have hl : lv_has LS 4 [(3, .int 1), (2, .int (-10)), (0, .int (gi (-(x : Int)))), (1, .int 0)] := hl
  refine lv_iload_n hx hb (show decode cJ6_stringSize_0f7a4 16 = .ok (.iload_n 3, 1) by decide +kernel) rfl (lv_at hl 0 rfl) ?_
  refine lv_bipush (v := 10) hx hb (show decode cJ6_stringSize_0f7a4 17 = .ok (.bipush 10, 2) by decide +kernel) (by decide) ?_
  refine lv_icmp_ge hx hb (show decode cJ6_stringSize_0f7a4 19 = .ok (.if_icmp .ge 23, 3) by decide +kernel) (tgt := 42) rfl (fun z => absurd z (by decide)) (fun _ => ?_)
  refine lv_iload_n hx hb (show decode cJ6_stringSize_0f7a4 22 = .ok (.iload_n 0, 1) by decide +kernel) rfl (lv_at hl 2 rfl) ?_
  refine lv_iload_n hx hb (show decode cJ6_stringSize_0f7a4 23 = .ok (.iload_n 2, 1) by decide +kernel) rfl (lv_at hl 1 rfl) ?_
  refine lv_icmp_le hx hb (show decode cJ6_stringSize_0f7a4 24 = .ok (.if_icmp .le 7, 3) by decide +kernel) (tgt := 31) rfl (fun h9 => ?_) (fun h9 => ?_)
  · rw [show (-10 : Int32) = gi (-10) from rfl, gi_le (by omega) (by omega) (by omega) (by omega)] at h9
    refine lv_bipush (v := 10) hx hb (show decode cJ6_stringSize_0f7a4 31 = .ok (.bipush 10, 2) by decide +kernel) (by decide) ?_
    refine lv_iload_n hx hb (show decode cJ6_stringSize_0f7a4 33 = .ok (.iload_n 2, 1) by decide +kernel) rfl (lv_at hl 1 rfl) ?_
    refine lv_imul hx hb (show decode cJ6_stringSize_0f7a4 34 = .ok (.imul, 1) by decide +kernel) ?_
    rw [show (10 : Int32) * (-10) = -100 by decide]
    refine lv_istore_n hx hb (show decode cJ6_stringSize_0f7a4 35 = .ok (.istore_n 2, 1) by decide +kernel) rfl hl (by decide) rfl (fun LS hl => ?_)
    have hl : lv_has LS 4 [(2, .int (-100)), (3, .int 1), (0, .int (gi (-(x : Int)))), (1, .int 0)] := hl
    refine lv_iinc (k := 1) (v := 2) hx hb (show decode cJ6_stringSize_0f7a4 36 = .ok (.iinc 3 1, 3) by decide +kernel) hl rfl (by decide) (by decide) rfl (fun LS hl => ?_)
    have hl : lv_has LS 4 [(3, .int 2), (2, .int (-100)), (0, .int (gi (-(x : Int)))), (1, .int 0)] := hl
    refine lv_goto hx hb (show decode cJ6_stringSize_0f7a4 39 = .ok (.goto (-23), 3) by decide +kernel) (tgt := 16) rfl ?_
    refine lv_iload_n hx hb (show decode cJ6_stringSize_0f7a4 16 = .ok (.iload_n 3, 1) by decide +kernel) rfl (lv_at hl 0 rfl) ?_
    refine lv_bipush (v := 10) hx hb (show decode cJ6_stringSize_0f7a4 17 = .ok (.bipush 10, 2) by decide +kernel) (by decide) ?_
    refine lv_icmp_ge hx hb (show decode cJ6_stringSize_0f7a4 19 = .ok (.if_icmp .ge 23, 3) by decide +kernel) (tgt := 42) rfl (fun z => absurd z (by decide)) (fun _ => ?_)
    refine lv_iload_n hx hb (show decode cJ6_stringSize_0f7a4 22 = .ok (.iload_n 0, 1) by decide +kernel) rfl (lv_at hl 2 rfl) ?_
    refine lv_iload_n hx hb (show decode cJ6_stringSize_0f7a4 23 = .ok (.iload_n 2, 1) by decide +kernel) rfl (lv_at hl 1 rfl) ?_
    refine lv_icmp_le hx hb (show decode cJ6_stringSize_0f7a4 24 = .ok (.if_icmp .le 7, 3) by decide +kernel) (tgt := 31) rfl (fun h8 => by rw [show (-100 : Int32) = gi (-100) from rfl, gi_le (by omega) (by omega) (by omega) (by omega)] at h8; omega) (fun _ => ?_)
    refine lv_iload_n hx hb (show decode cJ6_stringSize_0f7a4 27 = .ok (.iload_n 3, 1) by decide +kernel) rfl (lv_at hl 0 rfl) ?_
    refine lv_iload_n hx hb (show decode cJ6_stringSize_0f7a4 28 = .ok (.iload_n 1, 1) by decide +kernel) rfl (lv_at hl 3 rfl) ?_
    refine lv_iadd hx hb (show decode cJ6_stringSize_0f7a4 29 = .ok (.iadd, 1) by decide +kernel) ?_
    exact k_zret hx hb hr hlk rfl (by decide +kernel) hP hD hS ⟨by rw [show ksz x = 2 from if_neg (by omega)]; rfl, rfl⟩
  · rw [show (-10 : Int32) = gi (-10) from rfl, gi_le (by omega) (by omega) (by omega) (by omega)] at h9
    refine lv_iload_n hx hb (show decode cJ6_stringSize_0f7a4 27 = .ok (.iload_n 3, 1) by decide +kernel) rfl (lv_at hl 0 rfl) ?_
    refine lv_iload_n hx hb (show decode cJ6_stringSize_0f7a4 28 = .ok (.iload_n 1, 1) by decide +kernel) rfl (lv_at hl 3 rfl) ?_
    refine lv_iadd hx hb (show decode cJ6_stringSize_0f7a4 29 = .ok (.iadd, 1) by decide +kernel) ?_
    exact k_zret hx hb hr hlk rfl (by decide +kernel) hP hD hS ⟨by rw [show ksz x = 1 from if_pos (by omega)]; rfl, rfl⟩

def kgc (f : Nat → Int32) (x r : Nat) : Nat → Int32 := if x < 10 then upd f (r - 1) (gi ((48 + x % 10 : Nat) : Int)) else upd (upd f (r - 1) (gi ((48 + x % 10 : Nat) : Int))) (r - 1 - 1) (gi ((48 + x / 10 : Nat) : Int))
/-- Integer.getChars -/
theorem k_getChars {E : gEn} {K : kEn} {ws : va_W} {q1 a m x r : Nat} {f : Nat → Int32} (h1 : ws[q1]? = some (a, .inl (gca E 3, m, .inl f))) (h : x < 100) (hr1 : ksz x ≤ r) (hr2 : r ≤ m) (hm9 : m ≤ 30000) : kM E K yJ6_getChars_ba4f3 cJ6_getChars_ba4f3 7 (some .int) { frames := 1, cells := 0, slots := 0, locals := 20 } [.int (gi (x : Int)), .int (gi (r : Int)), .ref a] ws (fun v ws1 => (∃ y, v = some (.int y)) ∧ ws1 = ws.set q1 (a, .inl (gca E 3, m, .inl (kgc f x r)))) 0 0 := by
  refine kM_of (by decide) (Nat.le_of_ble_eq_true rfl) ?_
  intro p e s mI args below meth cc hC H locs LS hP hD hS hA hl
  obtain ⟨hx, hb, hr, hml, hown, htk, hlk, hF, hnm⟩ := hC
  have hts : ∀ w ∈ gBig, w.before args s = true := fun w h => htk w (kBig_g h)
  have hE := hF.1
  have hK := hE.1
  have hl : lv_has LS 7 [(0, .int (gi (x : Int))), (1, .int (gi (r : Int))), (2, .ref a)] := hl
  have hq1 : q1 < ws.length := (List.getElem?_eq_some_iff.mp h1).1
  have hsz : 1 ≤ r := by
    unfold ksz at hr1
    split at hr1 <;> omega
  refine lv_iload_n hx hb (show decode cJ6_getChars_ba4f3 0 = .ok (.iload_n 1, 1) by decide +kernel) rfl (lv_at hl 1 rfl) ?_
  refine lv_istore hx hb (show decode cJ6_getChars_ba4f3 1 = .ok (.istore 5, 2) by decide +kernel) hl (by decide) rfl (fun LS hl => ?_)
  have hl : lv_has LS 7 [(5, .int (gi (r : Int))), (0, .int (gi (x : Int))), (1, .int (gi (r : Int))), (2, .ref a)] := hl
  refine lv_iload_n hx hb (show decode cJ6_getChars_ba4f3 3 = .ok (.iload_n 0, 1) by decide +kernel) rfl (lv_at hl 1 rfl) ?_
  refine lv_if_ge hx hb (show decode cJ6_getChars_ba4f3 4 = .ok (.ifCond .ge 7, 3) by decide +kernel) (tgt := 11) rfl (fun _ => ?_) (fun z => absurd (by rw [show (0 : Int32) = gi 0 from rfl, gi_le (by omega) (by omega) (by omega) (by omega)]; omega) z)
  refine lv_iconst (v := 0) hx hb (show decode cJ6_getChars_ba4f3 11 = .ok (.iconst 0, 1) by decide +kernel) (by decide) ?_
  refine lv_istore hx hb (show decode cJ6_getChars_ba4f3 12 = .ok (.istore 6, 2) by decide +kernel) hl (by decide) rfl (fun LS hl => ?_)
  have hl : lv_has LS 7 [(6, .int 0), (5, .int (gi (r : Int))), (0, .int (gi (x : Int))), (1, .int (gi (r : Int))), (2, .ref a)] := hl
  refine lv_iload hx hb (show decode cJ6_getChars_ba4f3 14 = .ok (.iload 6, 2) by decide +kernel) (lv_at hl 0 rfl) ?_
  refine lv_if_ne hx hb (show decode cJ6_getChars_ba4f3 16 = .ok (.ifCond .ne 6, 3) by decide +kernel) (tgt := 22) rfl (fun z => absurd rfl z) (fun _ => ?_)
  refine lv_iload_n hx hb (show decode cJ6_getChars_ba4f3 19 = .ok (.iload_n 0, 1) by decide +kernel) rfl (lv_at hl 2 rfl) ?_
  refine lv_ineg hx hb (show decode cJ6_getChars_ba4f3 20 = .ok (.ineg, 1) by decide +kernel) ?_
  rw [gi_neg]
  refine lv_istore_n hx hb (show decode cJ6_getChars_ba4f3 21 = .ok (.istore_n 0, 1) by decide +kernel) rfl hl (by decide) rfl (fun LS hl => ?_)
  have hl : lv_has LS 7 [(0, .int (gi (-(x : Int)))), (6, .int 0), (5, .int (gi (r : Int))), (1, .int (gi (r : Int))), (2, .ref a)] := hl
  refine lv_iload_n hx hb (show decode cJ6_getChars_ba4f3 22 = .ok (.iload_n 0, 1) by decide +kernel) rfl (lv_at hl 0 rfl) ?_
  refine lv_bipush (v := (-100)) hx hb (show decode cJ6_getChars_ba4f3 23 = .ok (.bipush (-100), 2) by decide +kernel) (by decide) ?_
  refine lv_icmp_gt hx hb (show decode cJ6_getChars_ba4f3 25 = .ok (.if_icmp .gt 47, 3) by decide +kernel) (tgt := 72) rfl (fun _ => ?_) (fun z => absurd (by rw [show (-100 : Int32) = gi (-100) from rfl, gi_lt (by omega) (by omega) (by omega) (by omega)]; omega) z)
  refine lv_aload_n hx hb (show decode cJ6_getChars_ba4f3 72 = .ok (.aload_n 2, 1) by decide +kernel) rfl (lv_at hl 4 rfl) ?_
  refine lv_iinc (k := 2) (v := gi ((r - 1 : Nat) : Int)) hx hb (show decode cJ6_getChars_ba4f3 73 = .ok (.iinc 5 (-1), 3) by decide +kernel) hl rfl (by rw [show Int32.ofInt (-1) = gi (-1) from rfl, gi_add]; congr 1; omega) (by decide) rfl (fun LS hl => ?_)
  have hl : lv_has LS 7 [(5, .int (gi ((r - 1 : Nat) : Int))), (0, .int (gi (-(x : Int)))), (6, .int 0), (1, .int (gi (r : Int))), (2, .ref a)] := hl
  refine lv_iload hx hb (show decode cJ6_getChars_ba4f3 76 = .ok (.iload 5, 2) by decide +kernel) (lv_at hl 0 rfl) ?_
  refine va_gets hx hb hF.2.2.2.1 hS hown (hts _ kw_49) (fun _ h => h) (show decode cJ6_getChars_ba4f3 78 = .ok (.getstatic 83, 3) by decide +kernel) ?_
  refine lv_iload_n hx hb (show decode cJ6_getChars_ba4f3 81 = .ok (.iload_n 0, 1) by decide +kernel) rfl (lv_at hl 1 rfl) ?_
  refine lv_ineg hx hb (show decode cJ6_getChars_ba4f3 82 = .ok (.ineg, 1) by decide +kernel) ?_
  rw [gi_neg, Int.neg_neg]
  refine va_tb (v := .int (gi ((48 + x % 10 : Nat) : Int))) hx hb hF.2.2.2.2.1 hS (gvp (by omega) (by omega) (by decide)) (by rw [gi_c (by omega) (by omega), Int.toNat_natCast]; rfl) (show decode cJ6_getChars_ba4f3 83 = .ok (.baload, 1) by decide +kernel) ?_
  refine va_bast hx hb hK hP hD hS q1 3 h1 rfl (gvp (by omega) (by omega) (by omega)) (show decode cJ6_getChars_ba4f3 84 = .ok (.bastore, 1) by decide +kernel) (fun H locs hP hD hS => ?_)
  rw [gi_c (a := ((r - 1 : Nat) : Int)) (by omega) (by omega), Int.toNat_natCast, (kbyte (48 + x % 10) (by omega)).1] at hP hD
  refine lv_iload_n hx hb (show decode cJ6_getChars_ba4f3 85 = .ok (.iload_n 0, 1) by decide +kernel) rfl (lv_at hl 1 rfl) ?_
  refine lv_bipush (v := (-9)) hx hb (show decode cJ6_getChars_ba4f3 86 = .ok (.bipush (-9), 2) by decide +kernel) (by decide) ?_
  refine lv_icmp_ge hx hb (show decode cJ6_getChars_ba4f3 88 = .ok (.if_icmp .ge 16, 3) by decide +kernel) (tgt := 104) rfl (fun h9 => ?_) (fun h9 => ?_)
  · rw [show (-9 : Int32) = gi (-9) from rfl, gi_le (by omega) (by omega) (by omega) (by omega)] at h9
    refine lv_iload hx hb (show decode cJ6_getChars_ba4f3 104 = .ok (.iload 6, 2) by decide +kernel) (lv_at hl 2 rfl) ?_
    refine lv_if_eq hx hb (show decode cJ6_getChars_ba4f3 106 = .ok (.ifCond .eq 12, 3) by decide +kernel) (tgt := 118) rfl (fun _ => ?_) (fun z => absurd rfl z)
    refine lv_iload hx hb (show decode cJ6_getChars_ba4f3 118 = .ok (.iload 5, 2) by decide +kernel) (lv_at hl 0 rfl) ?_
    exact k_zret hx hb hr hlk rfl (by decide +kernel) hP hD hS ⟨⟨_, rfl⟩, by unfold kgc; rw [if_pos (by omega)]⟩
  · rw [show (-9 : Int32) = gi (-9) from rfl, gi_le (by omega) (by omega) (by omega) (by omega)] at h9
    have hr3 : 2 ≤ r := by rw [show ksz x = 2 from if_neg (by omega)] at hr1; exact hr1
    have h1' : (ws.set q1 (a, (.inl (gca E 3, m, .inl (upd f (r - 1) (gi ((48 + x % 10 : Nat) : Int)))) : va_E)))[q1]? = some (a, .inl (gca E 3, m, .inl (upd f (r - 1) (gi ((48 + x % 10 : Nat) : Int))))) := List.getElem?_set_self hq1
    refine lv_aload_n hx hb (show decode cJ6_getChars_ba4f3 91 = .ok (.aload_n 2, 1) by decide +kernel) rfl (lv_at hl 4 rfl) ?_
    refine lv_iinc (k := 0) (v := gi ((r - 1 - 1 : Nat) : Int)) hx hb (show decode cJ6_getChars_ba4f3 92 = .ok (.iinc 5 (-1), 3) by decide +kernel) hl rfl (by rw [show Int32.ofInt (-1) = gi (-1) from rfl, gi_add]; congr 1; omega) (by decide) rfl (fun LS hl => ?_)
    have hl : lv_has LS 7 [(5, .int (gi ((r - 1 - 1 : Nat) : Int))), (0, .int (gi (-(x : Int)))), (6, .int 0), (1, .int (gi (r : Int))), (2, .ref a)] := hl
    refine lv_iload hx hb (show decode cJ6_getChars_ba4f3 95 = .ok (.iload 5, 2) by decide +kernel) (lv_at hl 0 rfl) ?_
    refine va_gets hx hb hF.2.2.2.2.2.1 hS hown (hts _ kw_50) (fun _ h => h) (show decode cJ6_getChars_ba4f3 97 = .ok (.getstatic 87, 3) by decide +kernel) ?_
    refine lv_iload_n hx hb (show decode cJ6_getChars_ba4f3 100 = .ok (.iload_n 0, 1) by decide +kernel) rfl (lv_at hl 1 rfl) ?_
    refine lv_ineg hx hb (show decode cJ6_getChars_ba4f3 101 = .ok (.ineg, 1) by decide +kernel) ?_
    rw [gi_neg, Int.neg_neg]
    refine va_tb (v := .int (gi ((48 + x / 10 : Nat) : Int))) hx hb hF.2.2.2.2.2.2 hS (gvp (by omega) (by omega) (by decide)) (by rw [gi_c (by omega) (by omega), Int.toNat_natCast]; rfl) (show decode cJ6_getChars_ba4f3 102 = .ok (.baload, 1) by decide +kernel) ?_
    refine va_bast hx hb hK hP hD hS q1 3 h1' rfl (gvp (by omega) (by omega) (by omega)) (show decode cJ6_getChars_ba4f3 103 = .ok (.bastore, 1) by decide +kernel) (fun H locs hP hD hS => ?_)
    rw [gi_c (a := ((r - 1 - 1 : Nat) : Int)) (by omega) (by omega), Int.toNat_natCast, (kbyte (48 + x / 10) (by omega)).1] at hP hD
    rw [List.set_set] at hP hD
    refine lv_iload hx hb (show decode cJ6_getChars_ba4f3 104 = .ok (.iload 6, 2) by decide +kernel) (lv_at hl 2 rfl) ?_
    refine lv_if_eq hx hb (show decode cJ6_getChars_ba4f3 106 = .ok (.ifCond .eq 12, 3) by decide +kernel) (tgt := 118) rfl (fun _ => ?_) (fun z => absurd rfl z)
    refine lv_iload hx hb (show decode cJ6_getChars_ba4f3 118 = .ok (.iload 5, 2) by decide +kernel) (lv_at hl 0 rfl) ?_
    exact k_zret hx hb hr hlk rfl (by decide +kernel) hP hD hS ⟨⟨_, rfl⟩, by unfold kgc; rw [if_neg (by omega)]⟩
