/-! ===== new StringBuilder (by wip/p61/p99i.py) ===== -/
section KI
variable {E : gEn} {K : kEn} {p : Program} {e : Env} {R : Room} {s : State} {m : MethodId} {args : Array Value} {below : List Frame} {meth : Method} {cc : Code} {H : Heap} {locs : List Loc} {c w pc : Nat} {LS : Array Slot} {Qq : State → Prop} {ws : va_W} {P : Option Value → va_W → Prop} {mc ms : Nat}
theorem k_good {yn : MethodName} {bt2 : ByteArray} {ml2 : Nat} {ret2 : Option FieldType} (l5 : Cond.code yn bt2 ml2 ret2 ∈ gBig) : GoodIn kBig (Cond.code yn bt2 ml2 ret2 :: kBig) := by
  intro u hu
  rcases List.mem_cons.mp hu with rfl | hu
  · exact ⟨kBig_g l5, gBig_good l5⟩
  · exact ⟨hu, kBig_good hu⟩
/-- a constructor's call -/
theorem k_callI {own : String} {n np ml ml2 b : Nat} {yn : MethodName} {bt bt2 : ByteArray} {rm2 : Room} {As rest : List Value} (hC : p.tables.exec = Jvm.exec ∧ cc.code = bt ∧ cc.maxLocals = ml ∧ s.vm.findClass own = some m.cls ∧ (∀ w ∈ kBig, w.before args s = true) ∧ kF E K s s.heap)
    (hd : decode bt pc = .ok (.invokespecial n, 3)) (hl : Cond.methodLink own n yn ∈ gBig ∧ Cond.instanceMethod yn ∈ gBig ∧ Cond.initialized yn.cls ∈ gBig ∧ Cond.code yn bt2 ml2 none ∈ gBig) (hy : yn.name = "<init>")
    (he : yn.cls ≠ "java/lang/invoke/MethodHandle" ∧ yn.cls ≠ "java/lang/invoke/VarHandle" ∧ (parseMethodDescriptor yn.desc).map (fun d => d.parameters.length) = some np) (hn : As.length = np) (hm : rm2.frames + 1 ≤ R.frames ∧ 8 + (ml2 + 11) + rm2.locals ≤ R.locals) (hz : rm2.cells = mc ∧ rm2.slots = ms)
    (hsz : LS.size = ml) (hsm : (rest.map fun v => v.category).sum ≤ 8) (hc : c + mc ≤ R.cells ∧ w + ms ≤ R.slots) (hP : va_P (gD E) vwCl ws H) (hD : va_D (gA E) ws) (hS : va_S (gA E) s.heap H locs) (hM : kM E K yn bt2 ml2 none rm2 (.ref b :: As) ws P mc ms)
    (kk : ∀ (v : Option Value) (ws1 : va_W) (H1 : Heap) (locs1 : List Loc), P v ws1 → va_P (gD E) vwCl ws1 H1 → va_D (gA E) ws1 → va_S (gA E) s.heap H1 locs1 → W p (gl E) e R s m args below meth cc H1 locs1 (c + mc) (w + ms) Qq (F0 m (pc + 3) LS (v.toList ++ rest))) : W p (gl E) e R s m args below meth cc H locs c w Qq (F0 m pc LS (As.reverse ++ .ref b :: rest)) := by
  obtain ⟨hx, hb, hml, hown, hts, hE⟩ := hC
  obtain ⟨l1, l3, l4, l5⟩ := hl
  have cw := cwI (R := R) (s := s) (args := args) (own := own) (index := n) (y := yn) (bytes := bt2) (maxL := ml2) (mc := mc) (ms := ms) (rm := rm2) np hts (k_good l5) rfl hz.1 hz.2 (hts _ (kBig_g l4)) (hts _ (kBig_g l1)) (hts _ (kBig_g l3)) hy he hm
  have hrun := va_runI (Ts := kBig) (g := F0 m pc LS (As.reverse ++ .ref b :: rest)) (As := As) (rest := rest) (b := b) (H := H) (locs := locs) (cells := c) (slots := w) (e := e) (below := below) (meth := meth) ⟨hx, hb, hml, hown, hts⟩ hM cw
    ⟨kPc_blind, fun U hU hW => ⟨rfl, kPc_at hE hS hP hD hU hW⟩⟩ rfl hn hsz rfl (lv_room hsm) hd hc
  exact k_run hS hrun kk
/-- a virtual call of a method that the receiver's class overrides -/
theorem k_callO {own C : String} {n np ml ml2 m0 b : Nat} {x yn : MethodName} {bt bt2 b0 : ByteArray} {r0 ret2 : Option FieldType} {rm2 : Room} {As rest : List Value} (hC : p.tables.exec = Jvm.exec ∧ cc.code = bt ∧ cc.maxLocals = ml ∧ s.vm.findClass own = some m.cls ∧ (∀ w ∈ kBig, w.before args s = true) ∧ kF E K s s.heap)
    (hd : decode bt pc = .ok (.invokevirtual n, 3)) (hl : Cond.methodLink own n x ∈ gBig ∧ Cond.sameMethod x.cls x.cls x.name x.desc ∈ gBig ∧ Cond.instanceMethod x ∈ gBig ∧ Cond.selects C x yn ∈ gBig ∧ Cond.instanceMethod yn ∈ gBig ∧ Cond.initialized yn.cls ∈ gBig ∧ Cond.code yn bt2 ml2 ret2 ∈ gBig ∧ Cond.code x b0 m0 r0 ∈ gBig)
    (he : x.cls ≠ "java/lang/invoke/MethodHandle" ∧ x.cls ≠ "java/lang/invoke/VarHandle" ∧ (parseMethodDescriptor x.desc).map (fun d => d.parameters.length) = some np) (hn : As.length = np) (hm : rm2.frames + 1 ≤ R.frames ∧ 8 + (ml2 + 11) + rm2.locals ≤ R.locals) (hz : rm2.cells = mc ∧ rm2.slots = ms)
    (hrecv : ∃ cell : Cell, H[b]? = some cell ∧ cell.vm.isStatics = false ∧ s.vm.findClass C = some cell.cls)
    (hsz : LS.size = ml) (hsm : (rest.map fun v => v.category).sum ≤ 8) (hc : c + mc ≤ R.cells ∧ w + ms ≤ R.slots) (hP : va_P (gD E) vwCl ws H) (hD : va_D (gA E) ws) (hS : va_S (gA E) s.heap H locs) (hM : kM E K yn bt2 ml2 ret2 rm2 (.ref b :: As) ws P mc ms)
    (kk : ∀ (v : Option Value) (ws1 : va_W) (H1 : Heap) (locs1 : List Loc), P v ws1 → va_P (gD E) vwCl ws1 H1 → va_D (gA E) ws1 → va_S (gA E) s.heap H1 locs1 → W p (gl E) e R s m args below meth cc H1 locs1 (c + mc) (w + ms) Qq (F0 m (pc + 3) LS (v.toList ++ rest))) : W p (gl E) e R s m args below meth cc H locs c w Qq (F0 m pc LS (As.reverse ++ .ref b :: rest)) := by
  obtain ⟨hx, hb, hml, hown, hts, hE⟩ := hC
  obtain ⟨l1, l2, l3, l6, l7, l4, l5, l8⟩ := hl
  have hgood : GoodIn kBig (va_wsO own n C x.cls x yn (Cond.code yn bt2 ml2 ret2 :: kBig)) := by
    intro u hu
    unfold va_wsO at hu
    rcases List.mem_append.mp hu with hu | hu
    · simp only [List.mem_cons, List.not_mem_nil, or_false] at hu
      rcases hu with rfl | rfl | rfl | rfl | rfl | rfl
      · exact ⟨kBig_g l1, gBig_good l1⟩
      · exact ⟨kBig_g l2, gBig_good l2⟩
      · exact ⟨kBig_g l3, gBig_good l3⟩
      · exact ⟨kBig_g l6, gBig_good l6⟩
      · exact ⟨kBig_g l7, gBig_good l7⟩
      · exact ⟨kBig_g l4, gBig_good l4⟩
    · exact k_good l5 u hu
  have cw : va_CU R s args own C x.cls n x yn bt2 ml2 ret2 (Cond.code yn bt2 ml2 ret2 :: kBig) rm2 mc ms np := va_cwO np hts hgood rfl hz.1 hz.2 (b0 := b0) (m0 := m0) (r0 := r0) (kBig_g l8) he hm
  have hrun := va_runU (Ts := kBig) (g := F0 m pc LS (As.reverse ++ .ref b :: rest)) (As := As) (rest := rest) (b := b) (H := H) (locs := locs) (cells := c) (slots := w) (e := e) (below := below) (meth := meth) ⟨hx, hb, hml, hown, hts⟩ hM cw
    ⟨kPc_blind, hrecv, fun U hU hW => ⟨rfl, kPc_at hE hS hP hD hU hW⟩⟩ rfl hn hsz rfl (lv_room hsm) hd hc
  exact k_run hS hrun kk
end KI
theorem kw_101 : (Cond.methodLink "java/lang/StringBuilder" 23 yJ4_append_15ec4) ∈ gBig := gBig_of (gpc2 (List.mem_of_getElem? (i := 129) rfl)) rfl
theorem kw_102 : (Cond.instanceMethod yJ4_append_15ec4) ∈ gBig := gBig_of (gpc2 (List.mem_of_getElem? (i := 130) rfl)) rfl
theorem kw_103 : (Cond.selects "java/lang/StringBuilder" yJ4_append_15ec4 yJ4_append_15ec4) ∈ gBig := gBig_of (gpc2 (List.mem_of_getElem? (i := 131) rfl)) rfl
theorem kw_104 : (Cond.code yJ4_append_15ec4 cJ4_append_15ec4 2 (some (.object "java/lang/StringBuilder"))) ∈ gBig := gBig_of (gpc2 (List.mem_of_getElem? (i := 132) rfl)) rfl
/-- StringBuilder.append(String), as its superclass's -/
theorem k_sbB {E : gEn} {K : kEn} {ws : va_W} {q0 q1 q a m k : Nat} {z : Int32} {t : List Int} {f : Nat → Int32} (hSb : Sb E ws q0 q1 q z t a m f) (ht : t.length ≤ 340) (hk : k < 5) : kM E K yJ4_append_cf1ce cJ4_append_cf1ce 2 (some (.object "java/lang/AbstractStringBuilder")) { frames := 6, cells := 1, slots := 700, locals := 200 } [.ref q, .ref (K.1 k)] ws (fun v ws1 => v = some (.ref q) ∧ ∃ q2 a2 m2 f2, Sb E ws1 q0 q2 q z (t ++ kCh k) a2 m2 f2 ∧ kFr ws ws1 q0 q1 ∧ (q2 = q1 ∨ ws.length ≤ q2)) 1 700 := by
  refine kM_of (by decide) (Nat.le_of_ble_eq_true rfl) ?_
  intro p e s mI args below meth cc hC H locs LS hP hD hS hA hl
  obtain ⟨hx, hb, hr, hml, hown, htk, hlk, hF, hnm⟩ := hC
  have hts : ∀ w ∈ gBig, w.before args s = true := fun w h => htk w (kBig_g h)
  have hE := hF.1
  have hK := hE.1
  have hl : lv_has LS 2 [(0, .ref q), (1, .ref (K.1 k))] := hl
  refine lv_aload_n hx hb (show decode cJ4_append_cf1ce 0 = .ok (.aload_n 0, 1) by decide +kernel) rfl (lv_at hl 0 rfl) ?_
  refine lv_aload_n hx hb (show decode cJ4_append_cf1ce 1 = .ok (.aload_n 1, 1) by decide +kernel) rfl (lv_at hl 1 rfl) ?_
  refine k_callV (As := [.ref (K.1 k)]) (rest := []) ⟨hx, hb, hml, hown, htk, hF⟩ (show decode cJ4_append_cf1ce 2 = .ok (.invokevirtual 23, 3) by decide +kernel) ⟨kw_101, kw_102, kw_103, kw_92, kw_104⟩ (np := 1) (by decide +kernel) rfl ⟨Nat.le_of_ble_eq_true rfl, Nat.le_of_ble_eq_true rfl⟩ ⟨rfl, rfl⟩ (va_recv hK hP (ci := 11) rfl hSb.1) hl.1 (Nat.le_of_ble_eq_true rfl) ⟨Nat.le_of_ble_eq_true rfl, Nat.le_of_ble_eq_true rfl⟩ hP hD hS (k_sbS hSb ht hk) (fun v ws1 H locs hv hP hD hS => ?_)
  obtain ⟨rfl, q2, a2, m2, f2, hS2, hF2, hq2⟩ := hv
  exact k_aret hx hb hr (Or.inl ⟨_, rfl⟩) hlk (by decide +kernel) hP hD hS ⟨rfl, q2, a2, m2, f2, hS2, hF2, hq2⟩
