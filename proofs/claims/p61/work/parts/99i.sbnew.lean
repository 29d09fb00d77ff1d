/-! ===== new StringBuilder (by wip/p61/p99i.py) ===== -/
section KI
variable {E : gEn} {K : kEn} {p : Program} {e : Env} {R : Room} {s : State} {m : MethodId} {args : Array Value} {below : List Frame} {meth : Method} {cc : Code} {H : Heap} {locs : List Loc} {c w pc : Nat} {LS : Array Slot} {Qq : State → Prop} {ws : va_W} {P : Option Value → va_W → Prop} {mc ms : Nat}
theorem k_good {yn : MethodName} {bt2 : ByteArray} {ml2 : Nat} {ret2 : Option FieldType} (l5 : Cond.code yn bt2 ml2 ret2 ∈ gBig) : GoodIn kBig (Cond.code yn bt2 ml2 ret2 :: kBig) := by
  intro u hu
  rcases List.mem_cons.mp hu with rfl | hu
  · exact ⟨kBig_g l5, gBig_good l5⟩
  · exact ⟨hu, kBig_good hu⟩
/-- a constructor's call -/
theorem k_callI {own : String} {n np ml ml2 b : Nat} {yn : MethodName} {bt bt2 : ByteArray} {rm2 : Room} {As rest : List Value} (hC : p.tables.exec = Jvm.exec ∧ cc.code = bt ∧ cc.maxLocals = ml ∧ s.vm.findClass own = some m.cls ∧ (∀ w ∈ kBig, w.before args s = true) ∧ kF E K s s.heap)
    (hd : decode bt pc = .ok (.invokespecial n, 3)) (hl : Cond.methodLink own n yn ∈ gBig ∧ Cond.instanceMethod yn ∈ gBig ∧ Cond.initialized yn.cls ∈ gBig ∧ Cond.code yn bt2 ml2 none ∈ gBig) (hy : yn.name = "<init>")
    (he : yn.cls ≠ "java/lang/invoke/MethodHandle" ∧ yn.cls ≠ "java/lang/invoke/VarHandle" ∧ (parseMethodDescriptor yn.desc).map (fun d => d.parameters.length) = some np) (hn : As.length = np) (hm : rm2.frames + 1 ≤ R.frames ∧ 8 + (ml2 + 11) + rm2.locals ≤ R.locals) (hz : rm2.cells = mc ∧ rm2.slots = ms)
    (hsz : LS.size = ml) (hsm : (rest.map fun v => v.category).sum ≤ 8) (hc : c + mc ≤ R.cells ∧ w + ms ≤ R.slots) (hP : va_P (gD E) vwCl ws H) (hD : va_D (gA E) ws) (hS : va_S (gA E) s.heap H locs) (hM : kM E K yn bt2 ml2 none rm2 (.ref b :: As) ws P mc ms)
    (kk : ∀ (v : Option Value) (ws1 : va_W) (H1 : Heap) (locs1 : List Loc), P v ws1 → va_P (gD E) vwCl ws1 H1 → va_D (gA E) ws1 → va_S (gA E) s.heap H1 locs1 → W p (gl E) e R s m args below meth cc H1 locs1 (c + mc) (w + ms) Qq (F0 m (pc + 3) LS (v.toList ++ rest))) : W p (gl E) e R s m args below meth cc H locs c w Qq (F0 m pc LS (As.reverse ++ .ref b :: rest)) := by
  obtain ⟨hx, hb, hml, hown, hts, hE⟩ := hC
  obtain ⟨l1, l3, l4, l5⟩ := hl
  have cw := cwI (R := R) (s := s) (args := args) (own := own) (index := n) (y := yn) (bytes := bt2) (maxL := ml2) (mc := mc) (ms := ms) (rm := rm2) np hts (k_good l5) rfl hz.1 hz.2 (hts _ (kBig_g l4)) (hts _ (kBig_g l1)) (hts _ (kBig_g l3)) hy he hm
  have hrun := va_runI (Ts := kBig) (g := F0 m pc LS (As.reverse ++ .ref b :: rest)) (As := As) (rest := rest) (b := b) (H := H) (locs := locs) (cells := c) (slots := w) (e := e) (below := below) (meth := meth) ⟨hx, hb, hml, hown, hts⟩ hM cw
    ⟨kPc_blind, fun U hU hW => ⟨rfl, kPc_at hE hS hP hD hU hW⟩⟩ rfl hn hsz rfl (lv_room hsm) hd hc
  exact k_run hS hrun kk
/-- a virtual call of a method that the receiver's class overrides -/
theorem k_callO {own C : String} {n np ml ml2 m0 b : Nat} {x yn : MethodName} {bt bt2 b0 : ByteArray} {r0 ret2 : Option FieldType} {rm2 : Room} {As rest : List Value} (hC : p.tables.exec = Jvm.exec ∧ cc.code = bt ∧ cc.maxLocals = ml ∧ s.vm.findClass own = some m.cls ∧ (∀ w ∈ kBig, w.before args s = true) ∧ kF E K s s.heap)
    (hd : decode bt pc = .ok (.invokevirtual n, 3)) (hl : Cond.methodLink own n x ∈ gBig ∧ Cond.sameMethod x.cls x.cls x.name x.desc ∈ gBig ∧ Cond.instanceMethod x ∈ gBig ∧ Cond.selects C x yn ∈ gBig ∧ Cond.instanceMethod yn ∈ gBig ∧ Cond.initialized yn.cls ∈ gBig ∧ Cond.code yn bt2 ml2 ret2 ∈ gBig ∧ Cond.code x b0 m0 r0 ∈ gBig)
    (he : x.cls ≠ "java/lang/invoke/MethodHandle" ∧ x.cls ≠ "java/lang/invoke/VarHandle" ∧ (parseMethodDescriptor x.desc).map (fun d => d.parameters.length) = some np) (hn : As.length = np) (hm : rm2.frames + 1 ≤ R.frames ∧ 8 + (ml2 + 11) + rm2.locals ≤ R.locals) (hz : rm2.cells = mc ∧ rm2.slots = ms)
    (hrecv : ∃ cell : Cell, H[b]? = some cell ∧ cell.vm.isStatics = false ∧ s.vm.findClass C = some cell.cls)
    (hsz : LS.size = ml) (hsm : (rest.map fun v => v.category).sum ≤ 8) (hc : c + mc ≤ R.cells ∧ w + ms ≤ R.slots) (hP : va_P (gD E) vwCl ws H) (hD : va_D (gA E) ws) (hS : va_S (gA E) s.heap H locs) (hM : kM E K yn bt2 ml2 ret2 rm2 (.ref b :: As) ws P mc ms)
    (kk : ∀ (v : Option Value) (ws1 : va_W) (H1 : Heap) (locs1 : List Loc), P v ws1 → va_P (gD E) vwCl ws1 H1 → va_D (gA E) ws1 → va_S (gA E) s.heap H1 locs1 → W p (gl E) e R s m args below meth cc H1 locs1 (c + mc) (w + ms) Qq (F0 m (pc + 3) LS (v.toList ++ rest))) : W p (gl E) e R s m args below meth cc H locs c w Qq (F0 m pc LS (As.reverse ++ .ref b :: rest)) := by
  obtain ⟨hx, hb, hml, hown, hts, hE⟩ := hC
  obtain ⟨l1, l2, l3, l6, l7, l4, l5, l8⟩ := hl
  have hgood : GoodIn kBig (va_wsO own n C x.cls x yn (Cond.code yn bt2 ml2 ret2 :: kBig)) := by
    intro u hu
    unfold va_wsO at hu
    rcases List.mem_append.mp hu with hu | hu
    · simp only [List.mem_cons, List.not_mem_nil, or_false] at hu
      rcases hu with rfl | rfl | rfl | rfl | rfl | rfl
      · exact ⟨kBig_g l1, gBig_good l1⟩
      · exact ⟨kBig_g l2, gBig_good l2⟩
      · exact ⟨kBig_g l3, gBig_good l3⟩
      · exact ⟨kBig_g l6, gBig_good l6⟩
      · exact ⟨kBig_g l7, gBig_good l7⟩
      · exact ⟨kBig_g l4, gBig_good l4⟩
    · exact k_good l5 u hu
  have cw : va_CU R s args own C x.cls n x yn bt2 ml2 ret2 (Cond.code yn bt2 ml2 ret2 :: kBig) rm2 mc ms np := va_cwO np hts hgood rfl hz.1 hz.2 (b0 := b0) (m0 := m0) (r0 := r0) (kBig_g l8) he hm
  have hrun := va_runU (Ts := kBig) (g := F0 m pc LS (As.reverse ++ .ref b :: rest)) (As := As) (rest := rest) (b := b) (H := H) (locs := locs) (cells := c) (slots := w) (e := e) (below := below) (meth := meth) ⟨hx, hb, hml, hown, hts⟩ hM cw
    ⟨kPc_blind, hrecv, fun U hU hW => ⟨rfl, kPc_at hE hS hP hD hU hW⟩⟩ rfl hn hsz rfl (lv_room hsm) hd hc
  exact k_run hS hrun kk
end KI
theorem kw_101 : (Cond.methodLink "java/lang/StringBuilder" 23 yJ4_append_15ec4) ∈ gBig := gBig_of (gpc2 (List.mem_of_getElem? (i := 129) rfl)) rfl
theorem kw_102 : (Cond.instanceMethod yJ4_append_15ec4) ∈ gBig := gBig_of (gpc2 (List.mem_of_getElem? (i := 130) rfl)) rfl
theorem kw_103 : (Cond.selects "java/lang/StringBuilder" yJ4_append_15ec4 yJ4_append_15ec4) ∈ gBig := gBig_of (gpc2 (List.mem_of_getElem? (i := 131) rfl)) rfl
theorem kw_104 : (Cond.code yJ4_append_15ec4 cJ4_append_15ec4 2 (some (.object "java/lang/StringBuilder"))) ∈ gBig := gBig_of (gpc2 (List.mem_of_getElem? (i := 132) rfl)) rfl
theorem kw_105 : (Cond.methodLink "java/lang/AbstractStringBuilder" 3 objectInit) ∈ gBig := gBig_of (gpc2 (List.mem_of_getElem? (i := 102) rfl)) rfl
theorem kw_106 : (Cond.constant "java/lang/AbstractStringBuilder" 38 2147483631) ∈ gBig := gBig_of (gpc2 (List.mem_of_getElem? (i := 113) rfl)) rfl
theorem kw_107 : (Cond.methodLink "java/lang/AbstractStringBuilder" 43 yJ5_append_cf1ce) ∈ gBig := gBig_of (gpc2 (List.mem_of_getElem? (i := 123) rfl)) rfl
theorem kw_108 : (Cond.selects "java/lang/StringBuilder" yJ5_append_cf1ce yJ4_append_cf1ce) ∈ gBig := gBig_of (gpc2 (List.mem_of_getElem? (i := 126) rfl)) rfl
theorem kw_109 : (Cond.instanceMethod yJ4_append_cf1ce) ∈ gBig := gBig_of (gpc2 (List.mem_of_getElem? (i := 127) rfl)) rfl
theorem kw_110 : (Cond.code yJ4_append_cf1ce cJ4_append_cf1ce 2 (some (.object "java/lang/AbstractStringBuilder"))) ∈ gBig := gBig_of (gpc2 (List.mem_of_getElem? (i := 128) rfl)) rfl
theorem kw_111 : (Cond.methodLink "java/lang/StringBuilder" 7 yJ5_init_a7421) ∈ gBig := gBig_of (gpc2 (List.mem_of_getElem? (i := 99) rfl)) rfl
theorem kw_112 : (Cond.instanceMethod yJ5_init_a7421) ∈ gBig := gBig_of (gpc2 (List.mem_of_getElem? (i := 100) rfl)) rfl
theorem kw_113 : (Cond.code yJ5_init_a7421 cJ5_init_a7421 5 none) ∈ gBig := gBig_of (gpc2 (List.mem_of_getElem? (i := 101) rfl)) rfl
/-- StringBuilder.append(String), as its superclass's -/
theorem k_sbB {E : gEn} {K : kEn} {ws : va_W} {q0 q1 q a m k : Nat} {z : Int32} {t : List Int} {f : Nat → Int32} (hSb : Sb E ws q0 q1 q z t a m f) (ht : t.length ≤ 340) (hk : k < 5) : kM E K yJ4_append_cf1ce cJ4_append_cf1ce 2 (some (.object "java/lang/AbstractStringBuilder")) { frames := 6, cells := 1, slots := 700, locals := 200 } [.ref q, .ref (K.1 k)] ws (fun v ws1 => v = some (.ref q) ∧ ∃ q2 a2 m2 f2, Sb E ws1 q0 q2 q z (t ++ kCh k) a2 m2 f2 ∧ kFr ws ws1 q0 q1 ∧ (q2 = q1 ∨ ws.length ≤ q2)) 1 700 := by
  refine kM_of (by decide) (Nat.le_of_ble_eq_true rfl) ?_
  intro p e s mI args below meth cc hC H locs LS hP hD hS hA hl
  obtain ⟨hx, hb, hr, hml, hown, htk, hlk, hF, hnm⟩ := hC
  have hts : ∀ w ∈ gBig, w.before args s = true := fun w h => htk w (kBig_g h)
  have hE := hF.1
  have hK := hE.1
  have hl : lv_has LS 2 [(0, .ref q), (1, .ref (K.1 k))] := hl
  refine lv_aload_n hx hb (show decode cJ4_append_cf1ce 0 = .ok (.aload_n 0, 1) by decide +kernel) rfl (lv_at hl 0 rfl) ?_
  refine lv_aload_n hx hb (show decode cJ4_append_cf1ce 1 = .ok (.aload_n 1, 1) by decide +kernel) rfl (lv_at hl 1 rfl) ?_
  refine k_callV (As := [.ref (K.1 k)]) (rest := []) ⟨hx, hb, hml, hown, htk, hF⟩ (show decode cJ4_append_cf1ce 2 = .ok (.invokevirtual 23, 3) by decide +kernel) ⟨kw_101, kw_102, kw_103, kw_92, kw_104⟩ (np := 1) (by decide +kernel) rfl ⟨Nat.le_of_ble_eq_true rfl, Nat.le_of_ble_eq_true rfl⟩ ⟨rfl, rfl⟩ (va_recv hK hP (ci := 11) rfl hSb.1) hl.1 (Nat.le_of_ble_eq_true rfl) ⟨Nat.le_of_ble_eq_true rfl, Nat.le_of_ble_eq_true rfl⟩ hP hD hS (k_sbS hSb ht hk) (fun v ws1 H locs hv hP hD hS => ?_)
  obtain ⟨rfl, q2, a2, m2, f2, hS2, hF2, hq2⟩ := hv
  exact k_aret hx hb hr (Or.inl ⟨_, rfl⟩) hlk (by decide +kernel) hP hD hS ⟨rfl, q2, a2, m2, f2, hS2, hF2, hq2⟩

/-- AbstractStringBuilder(String) -/
theorem k_asbNew {E : gEn} {K : kEn} {ws : va_W} {q0 q k : Nat} (h0 : ws[q0]? = some (q, .inr (11, [.null, .int 0, .int 0, .int 0]))) (hk : k < 5) : kM E K yJ5_init_a7421 cJ5_init_a7421 5 none { frames := 7, cells := 2, slots := 726, locals := 240 } [.ref q, .ref (K.1 k)] ws (fun v ws1 => v = none ∧ ∃ q1 a m f, Sb E ws1 q0 q1 q 0 (kCh k) a m f ∧ ws.length ≤ q1 ∧ kFr ws ws1 q0 ws.length) 2 726 := by
  refine kM_of (by decide) (Nat.le_of_ble_eq_true rfl) ?_
  intro p e s mI args below meth cc hC H locs LS hP hD hS hA hl
  obtain ⟨hx, hb, hr, hml, hown, htk, hlk, hF, hnm⟩ := hC
  have hts : ∀ w ∈ gBig, w.before args s = true := fun w h => htk w (kBig_g h)
  have hE := hF.1
  have hK := hE.1
  have hl : lv_has LS 5 [(0, .ref q), (1, .ref (K.1 k))] := hl
  obtain ⟨w1, w2, w3⟩ := kCh_ok k hk
  have hlt : q0 < ws.length := (List.getElem?_eq_some_iff.mp h0).1
  have e1 : gi ((kCh k).length : Int) + 16 = gi (((kCh k).length + 16 : Nat) : Int) := by rw [show (16 : Int32) = gi 16 from rfl, gi_add]; rfl
  refine lv_aload_n hx hb (show decode cJ5_init_a7421 0 = .ok (.aload_n 0, 1) by decide +kernel) rfl (lv_at hl 0 rfl) ?_
  refine W.objInit hx hb hown (hts _ kw_105) (hts _ gwi_1) (hts _ gwi_2) rfl (by rw [hml]; exact hl.1) rfl (show decode cJ5_init_a7421 1 = .ok (.invokespecial 3, 3) by decide +kernel) (Nat.le_of_ble_eq_true rfl) (Nat.le_of_ble_eq_true rfl) ?_
  refine W.eq (g2 := F0 mI 4 LS []) rfl ?_
  refine lv_aload_n hx hb (show decode cJ5_init_a7421 4 = .ok (.aload_n 1, 1) by decide +kernel) rfl (lv_at hl 1 rfl) ?_
  refine k_callV (As := []) (rest := []) ⟨hx, hb, hml, hown, htk, hF⟩ (show decode cJ5_init_a7421 5 = .ok (.invokevirtual 32, 3) by decide +kernel) ⟨kw_77, kw_78, kw_79, kw_65, kw_80⟩ (np := 0) (by decide +kernel) rfl ⟨Nat.le_of_ble_eq_true rfl, Nat.le_of_ble_eq_true rfl⟩ ⟨rfl, rfl⟩ (vk_recv hF.2.1 hk hS) hl.1 (Nat.le_of_ble_eq_true rfl) ⟨Nat.le_of_ble_eq_true rfl, Nat.le_of_ble_eq_true rfl⟩ hP hD hS (k_slen hk) (fun v ws9 H locs hv hP hD hS => ?_)
  obtain ⟨rfl, e9⟩ := hv
  rw [e9] at hP hD
  clear e9
  refine lv_istore_n hx hb (show decode cJ5_init_a7421 8 = .ok (.istore_n 2, 1) by decide +kernel) rfl hl (by decide) rfl (fun LS hl => ?_)
  have hl : lv_has LS 5 [(2, .int (gi ((kCh k).length : Int))), (0, .ref q), (1, .ref (K.1 k))] := hl
  refine lv_iload_n hx hb (show decode cJ5_init_a7421 9 = .ok (.iload_n 2, 1) by decide +kernel) rfl (lv_at hl 0 rfl) ?_
  refine lv_ldc (v := 2147483631) hx hb hown (hts _ kw_106) (show decode cJ5_init_a7421 10 = .ok (.ldc 38, 2) by decide +kernel) ?_
  refine lv_icmp_ge hx hb (show decode cJ5_init_a7421 12 = .ok (.if_icmp .ge 10, 3) by decide +kernel) (tgt := 22) rfl (fun z => by rw [show (2147483631 : Int32) = gi 2147483631 from rfl, gi_le (by omega) (by omega) (by omega) (by omega)] at z; omega) (fun _ => ?_)
  refine lv_iload_n hx hb (show decode cJ5_init_a7421 15 = .ok (.iload_n 2, 1) by decide +kernel) rfl (lv_at hl 0 rfl) ?_
  refine lv_bipush (v := 16) hx hb (show decode cJ5_init_a7421 16 = .ok (.bipush 16, 2) by decide +kernel) (by decide) ?_
  refine lv_iadd hx hb (show decode cJ5_init_a7421 18 = .ok (.iadd, 1) by decide +kernel) ?_
  rw [e1]
  refine lv_goto hx hb (show decode cJ5_init_a7421 19 = .ok (.goto 5, 3) by decide +kernel) (tgt := 24) rfl ?_
  refine lv_istore_n hx hb (show decode cJ5_init_a7421 24 = .ok (.istore_n 3, 1) by decide +kernel) rfl hl (by decide) rfl (fun LS hl => ?_)
  have hl : lv_has LS 5 [(3, .int (gi (((kCh k).length + 16 : Nat) : Int))), (2, .int (gi ((kCh k).length : Int))), (0, .ref q), (1, .ref (K.1 k))] := hl
  refine lv_aload_n hx hb (show decode cJ5_init_a7421 25 = .ok (.aload_n 1, 1) by decide +kernel) rfl (lv_at hl 3 rfl) ?_
  refine k_callV (As := []) (rest := []) ⟨hx, hb, hml, hown, htk, hF⟩ (show decode cJ5_init_a7421 26 = .ok (.invokevirtual 40, 3) by decide +kernel) ⟨kw_67, kw_63, kw_64, kw_65, kw_66⟩ (np := 0) (by decide +kernel) rfl ⟨Nat.le_of_ble_eq_true rfl, Nat.le_of_ble_eq_true rfl⟩ ⟨rfl, rfl⟩ (vk_recv hF.2.1 hk hS) hl.1 (Nat.le_of_ble_eq_true rfl) ⟨Nat.le_of_ble_eq_true rfl, Nat.le_of_ble_eq_true rfl⟩ hP hD hS (k_coder hk) (fun v ws9 H locs hv hP hD hS => ?_)
  obtain ⟨rfl, e9⟩ := hv
  rw [e9] at hP hD
  clear e9
  refine lv_istore hx hb (show decode cJ5_init_a7421 29 = .ok (.istore 4, 2) by decide +kernel) hl (by decide) rfl (fun LS hl => ?_)
  have hl : lv_has LS 5 [(4, .int 0), (3, .int (gi (((kCh k).length + 16 : Nat) : Int))), (2, .int (gi ((kCh k).length : Int))), (0, .ref q), (1, .ref (K.1 k))] := hl
  refine lv_aload_n hx hb (show decode cJ5_init_a7421 31 = .ok (.aload_n 0, 1) by decide +kernel) rfl (lv_at hl 3 rfl) ?_
  refine lv_iload hx hb (show decode cJ5_init_a7421 32 = .ok (.iload 4, 2) by decide +kernel) (lv_at hl 0 rfl) ?_
  refine va_put (D := gD E) (ci := 11) (v := .int 0) (ty := .byte) (C := RJ4) (T := TJ4) (N := 4) hx hb hts kgb ktyJ4 ktyJ4_ok (by decide +kernel) hown hK hP hD hS q0 h0 rfl 1 (by decide) (hts _ kw_14) (fun _ h9 => h9) rfl (by decide +kernel) rfl rfl (Nat.le_of_ble_eq_true rfl) (show decode cJ5_init_a7421 34 = .ok (.putfield 22, 3) by decide +kernel) (fun H locs hP hD hS => ?_)
  refine lv_aload_n hx hb (show decode cJ5_init_a7421 37 = .ok (.aload_n 0, 1) by decide +kernel) rfl (lv_at hl 3 rfl) ?_
  refine lv_iload hx hb (show decode cJ5_init_a7421 38 = .ok (.iload 4, 2) by decide +kernel) (lv_at hl 0 rfl) ?_
  refine lv_if_ne hx hb (show decode cJ5_init_a7421 40 = .ok (.ifCond .ne 9, 3) by decide +kernel) (tgt := 49) rfl (fun z => absurd rfl z) (fun _ => ?_)
  refine lv_iload_n hx hb (show decode cJ5_init_a7421 43 = .ok (.iload_n 3, 1) by decide +kernel) rfl (lv_at hl 1 rfl) ?_
  refine va_newa (atype := .byte) (ty := .byte) (a0 := ((kCh k).length + 16, .inl (fun _ => 0))) (N' := (kCh k).length + 16) hx hb (hts _ kw_5) rfl hK hP hD hS hA (fun _ => rfl) (by rw [show (gi (((kCh k).length + 16 : Nat) : Int) < 0) = (gi (((kCh k).length + 16 : Nat) : Int) < gi 0) from rfl, gi_lt (by omega) (by omega) (by omega) (by omega)]; omega) (by rw [gi_c (by omega) (by omega)]; exact Int.toNat_natCast _) (by show ((kCh k).length + 16) * 1 ≤ _; omega) (Nat.le_of_ble_eq_true rfl) (by show 0 + 0 + 0 + ((kCh k).length + 16) ≤ 726; omega) (show decode cJ5_init_a7421 44 = .ok (.newarray .byte, 2) by decide +kernel) (fun a2 cA H hK2 hP hD hS => ?_)
  have hcA : cA = gca E 3 := gca_eq hK2 3 rfl rfl
  subst hcA
  clear hK2
  refine lv_goto hx hb (show decode cJ5_init_a7421 46 = .ok (.goto 7, 3) by decide +kernel) (tgt := 53) rfl ?_
  have h0' : (ws.set q0 (q, .inr (11, [.null, .int 0, .int 0, .int 0])) ++ [(a2, (.inl (gca E 3, (kCh k).length + 16, .inl (fun _ => 0)) : va_E))])[q0]? = some (q, .inr (11, [.null, .int 0, .int 0, .int 0])) := by rw [List.getElem?_append_left (by rw [List.length_set]; exact hlt), List.getElem?_set_self hlt]
  refine va_put (D := gD E) (ci := 11) (v := .ref a2) (ty := .array .byte) (C := RJ4) (T := TJ4) (N := 4) hx hb hts kgb ktyJ4 ktyJ4_ok (by decide +kernel) hown hK hP hD hS q0 h0' rfl 0 (by decide) (hts _ kw_15) (fun _ h9 => h9) rfl (by decide +kernel) rfl rfl (Nat.le_of_ble_eq_true rfl) (show decode cJ5_init_a7421 53 = .ok (.putfield 15, 3) by decide +kernel) (fun H locs hP hD hS => ?_)
  have hS0 : Sb E ((ws.set q0 (q, .inr (11, [.null, .int 0, .int 0, .int 0])) ++ [(a2, (.inl (gca E 3, (kCh k).length + 16, .inl (fun _ => 0)) : va_E))]).set q0 (q, kB a2 0 0)) q0 ws.length q 0 [] a2 ((kCh k).length + 16) (fun _ => 0) := by
    refine ⟨?_, ?_, fun _ => (by decide : fits .byte (.int 0) = true), Nat.zero_le _, by omega, fun i hi => absurd hi (Nat.not_lt_zero i)⟩
    · rw [List.getElem?_set_self (by rw [List.length_append, List.length_set]; omega)]
      rfl
    · rw [List.getElem?_set_ne (by omega), List.getElem?_append_right (by rw [List.length_set]; exact Nat.le_refl _), List.length_set, Nat.sub_self]
      rfl
  have hF0 : kFr ws ((ws.set q0 (q, .inr (11, [.null, .int 0, .int 0, .int 0])) ++ [(a2, (.inl (gca E 3, (kCh k).length + 16, .inl (fun _ => 0)) : va_E))]).set q0 (q, kB a2 0 0)) q0 ws.length := by
    refine ⟨by rw [List.length_set, List.length_append, List.length_set]; omega, fun k' hk' h9 _ => ?_⟩
    rw [List.getElem?_set_ne (Ne.symm h9), List.getElem?_append_left (by rw [List.length_set]; exact hk'), List.getElem?_set_ne (Ne.symm h9)]
  refine lv_aload_n hx hb (show decode cJ5_init_a7421 56 = .ok (.aload_n 0, 1) by decide +kernel) rfl (lv_at hl 3 rfl) ?_
  refine lv_aload_n hx hb (show decode cJ5_init_a7421 57 = .ok (.aload_n 1, 1) by decide +kernel) rfl (lv_at hl 4 rfl) ?_
  refine k_callO (C := RJ4) (As := [.ref (K.1 k)]) (rest := []) ⟨hx, hb, hml, hown, htk, hF⟩ (show decode cJ5_init_a7421 58 = .ok (.invokevirtual 43, 3) by decide +kernel) ⟨kw_107, kw_86, kw_87, kw_108, kw_109, kw_92, kw_110, kw_88⟩ (np := 1) (by decide +kernel) rfl ⟨Nat.le_of_ble_eq_true rfl, Nat.le_of_ble_eq_true rfl⟩ ⟨rfl, rfl⟩ (va_recv hK hP (ci := 11) rfl hS0.1) hl.1 (Nat.le_of_ble_eq_true rfl) ⟨Nat.le_of_ble_eq_true rfl, by show 0 + 0 + 0 + ((kCh k).length + 16) + 700 ≤ 726; omega⟩ hP hD hS (k_sbB hS0 (Nat.zero_le _) hk) (fun v ws1 H locs hv hP hD hS => ?_)
  obtain ⟨rfl, q2, a3, m3, f3, hS2, hF2, hq2⟩ := hv
  have hl0 := hF0.1
  have hq3 : q2 = ws.length ∨ ((ws.set q0 (q, .inr (11, [.null, .int 0, .int 0, .int 0])) ++ [(a2, (.inl (gca E 3, (kCh k).length + 16, .inl (fun _ => 0)) : va_E))]).set q0 (q, kB a2 0 0)).length ≤ q2 := hq2
  have hq4 : ws.length ≤ q2 := by rcases hq3 with h | h <;> omega
  refine lv_pop hx hb (show decode cJ5_init_a7421 61 = .ok (.pop, 1) by decide +kernel) rfl ?_
  refine W.widen (k := 2) (n := 726) (Nat.le_of_ble_eq_true rfl) (by show 0 + 0 + 0 + ((kCh k).length + 16) + 700 ≤ 726; omega) ?_
  exact k_vret hx hb hr hlk (by decide +kernel) hP hD hS ⟨rfl, q2, a3, m3, f3, hS2, hq4, Nat.le_trans hF0.1 hF2.1, fun k9 hk9 h9 h8 => (hF2.2 k9 (Nat.lt_of_lt_of_le hk9 hF0.1) h9 (by omega)).trans (hF0.2 k9 hk9 h9 h8)⟩

/-- StringBuilder(String) -/
theorem k_sbNew {E : gEn} {K : kEn} {ws : va_W} {q0 q k : Nat} (h0 : ws[q0]? = some (q, .inr (11, [.null, .int 0, .int 0, .int 0]))) (hk : k < 5) : kM E K yJ4_init_a7421 cJ4_init_a7421 2 none { frames := 8, cells := 2, slots := 726, locals := 280 } [.ref q, .ref (K.1 k)] ws (fun v ws1 => v = none ∧ ∃ q1 a m f, Sb E ws1 q0 q1 q 0 (kCh k) a m f ∧ ws.length ≤ q1 ∧ kFr ws ws1 q0 ws.length) 2 726 := by
  refine kM_of (by decide) (Nat.le_of_ble_eq_true rfl) ?_
  intro p e s mI args below meth cc hC H locs LS hP hD hS hA hl
  obtain ⟨hx, hb, hr, hml, hown, htk, hlk, hF, hnm⟩ := hC
  have hts : ∀ w ∈ gBig, w.before args s = true := fun w h => htk w (kBig_g h)
  have hE := hF.1
  have hK := hE.1
  have hl : lv_has LS 2 [(0, .ref q), (1, .ref (K.1 k))] := hl
  refine lv_aload_n hx hb (show decode cJ4_init_a7421 0 = .ok (.aload_n 0, 1) by decide +kernel) rfl (lv_at hl 0 rfl) ?_
  refine lv_aload_n hx hb (show decode cJ4_init_a7421 1 = .ok (.aload_n 1, 1) by decide +kernel) rfl (lv_at hl 1 rfl) ?_
  refine k_callI (As := [.ref (K.1 k)]) (rest := []) ⟨hx, hb, hml, hown, htk, hF⟩ (show decode cJ4_init_a7421 2 = .ok (.invokespecial 7, 3) by decide +kernel) ⟨kw_111, kw_112, kw_24, kw_113⟩ rfl (np := 1) (by decide +kernel) rfl ⟨Nat.le_of_ble_eq_true rfl, Nat.le_of_ble_eq_true rfl⟩ ⟨rfl, rfl⟩ hl.1 (Nat.le_of_ble_eq_true rfl) ⟨Nat.le_of_ble_eq_true rfl, Nat.le_of_ble_eq_true rfl⟩ hP hD hS (k_asbNew h0 hk) (fun v ws1 H locs hv hP hD hS => ?_)
  obtain ⟨rfl, hv⟩ := hv
  exact k_vret hx hb hr hlk (by decide +kernel) hP hD hS ⟨rfl, hv⟩
