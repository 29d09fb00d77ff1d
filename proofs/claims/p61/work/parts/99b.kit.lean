/-! ===== stretches by kit rows: contracts over a whole world ===== -/
/-- the law's own texts: their places in Lab's pool -/
def kTx2 : List (Nat × String × Nat) := [(9, "toeplitz ", 0), (52, " prime ", 1), (57, ";diagonal ", 2), (66, ";side ", 3), (68, ";probe ", 4)]
def kTl : List Nat := [9, 7, 10, 6, 7]
def kTb : List (List Int32) := [[116, 111, 101, 112, 108, 105, 116, 122, 32], [32, 112, 114, 105, 109, 101, 32], [59, 100, 105, 97, 103, 111, 110, 97, 108, 32], [59, 115, 105, 100, 101, 32], [59, 112, 114, 111, 98, 101, 32]]
abbrev kEn : Type := (Nat → Nat) × (Nat → Nat) × Nat × Nat
def kF (E : gEn) (K : kEn) (U : State) (H : Heap) : Prop :=
  gEv E U H ∧ vk_S 5 kTl kTb K.1 K.2.1 (gA E) U H ∧ (((∀ q ∈ kTx2, vk_R "ToeplitzLabLaw$Lab" q.1 q.2.1 (K.1 q.2.2) U) ∧ va_Nw (.fieldLinkNest "ToeplitzLabLaw$Lab" 40 "ToeplitzLabLaw" "PRIMES" "[I" "ToeplitzLabLaw") U) ∧ va_Nw (.castable "[B" "java/lang/Cloneable") U) ∧
  va_Z "java/lang/Integer" "DigitOnes" "[B" (.ref K.2.2.1) (gA E) U H ∧ va_T .byte K.2.2.1 100 (fun j => .int (gi (48 + (j % 10 : Nat)))) (gA E) U H ∧
  va_Z "java/lang/Integer" "DigitTens" "[B" (.ref K.2.2.2) (gA E) U H ∧ va_T .byte K.2.2.2 100 (fun j => .int (gi (48 + (j / 10 : Nat)))) (gA E) U H
theorem kF.to {E : gEn} {K : kEn} {s U : State} {H H1 : Heap} (hW : s.WarmedH U.vm) (h : kF E K s H) (hz : H.size ≤ H1.size) (hq : ∀ a : Nat, a < H.size → ¬ gA E a → H1[a]? = H[a]?) : kF E K U H1 := by
  obtain ⟨h1, h2, h3, h4, h5, h6, h7⟩ := h
  have hv := hW.alike
  exact ⟨h1.to hW hz hq, (h2.moved hv).kept hq, ⟨⟨fun q hq2 => (h3.1.1 q hq2).warm hW, h3.1.2.warmF hW⟩, h3.2.warmC hW⟩, (h4.moved hv).kept hq, (h5.moved hv).kept hq, (h6.moved hv).kept hq, (h7.moved hv).kept hq⟩
def kPc (E : gEn) (K : kEn) (ws : va_W) : State → Prop := fun U => kF E K U U.heap ∧ va_P (gD E) vwCl ws U.heap ∧ va_D (gA E) ws
def kQ (E : gEn) (P : Option Value → va_W → Prop) : Array Value → State → Outcome → State → Prop := fun _ st o t => (∃ v ws, o = .returned v ∧ P v ws ∧ va_P (gD E) vwCl ws t.heap ∧ va_D (gA E) ws) ∧ va_F (gA E) st t
/-- the words that ride along: besides gBig, that a builder selects its own class's private methods -/
def kSel : List Cond := [.selects RJ4 yJ5_ensureCapacityInternal_d00df yJ5_ensureCapacityInternal_d00df, .selects RJ4 yJ5_newCapacity_0f7a4 yJ5_newCapacity_0f7a4, .selects RJ4 yJ5_putStringAt_47b60 yJ5_putStringAt_47b60, .selects RJ4 yJ5_inflateIfNeededFor_a7421 yJ5_inflateIfNeededFor_a7421]
def kBig : List Cond := kSel ++ gBig
theorem kBig_g {w : Cond} (h : w ∈ gBig) : w ∈ kBig := List.mem_append_right _ h
theorem kBig_good {w : Cond} (h : w ∈ kBig) : (w.onTables && w.keeps) = true ∨ ∃ ty, w = .arrayClass ty := by
  rcases List.mem_append.mp h with h | h
  · unfold kSel at h
    simp only [List.mem_cons, List.not_mem_nil, or_false] at h
    rcases h with rfl | rfl | rfl | rfl <;> exact good_of_word rfl
  · exact gBig_good h
theorem kSel_0 : Cond.selects RJ4 yJ5_ensureCapacityInternal_d00df yJ5_ensureCapacityInternal_d00df ∈ kBig := List.mem_append_left _ (List.mem_of_getElem? (i := 0) rfl)
theorem kSel_1 : Cond.selects RJ4 yJ5_newCapacity_0f7a4 yJ5_newCapacity_0f7a4 ∈ kBig := List.mem_append_left _ (List.mem_of_getElem? (i := 1) rfl)
theorem kSel_2 : Cond.selects RJ4 yJ5_putStringAt_47b60 yJ5_putStringAt_47b60 ∈ kBig := List.mem_append_left _ (List.mem_of_getElem? (i := 2) rfl)
theorem kSel_3 : Cond.selects RJ4 yJ5_inflateIfNeededFor_a7421 yJ5_inflateIfNeededFor_a7421 ∈ kBig := List.mem_append_left _ (List.mem_of_getElem? (i := 3) rfl)
/-- a method's contract over a whole world -/
def kM (E : gEn) (K : kEn) (yn : MethodName) (bt : ByteArray) (ml : Nat) (ret : Option FieldType) (rm : Room) (av : List Value) (ws : va_W) (P : Option Value → va_W → Prop) (mc ms : Nat) : Prop :=
  Met (gl E) yn (Cond.code yn bt ml ret :: kBig) rm (va_Pc av (kPc E K ws)) (kQ E P) mc ms (gA E)
def kC (E : gEn) (K : kEn) (yn : MethodName) (bt : ByteArray) (ml : Nat) (ret : Option FieldType) (p : Program) (s : State) (m : MethodId) (args : Array Value) (meth : Method) (cc : Code) : Prop :=
  p.tables.exec = Jvm.exec ∧ cc.code = bt ∧ meth.sig.returnType = ret ∧ cc.maxLocals = ml ∧ s.vm.findClass yn.cls = some m.cls ∧ (∀ w ∈ kBig, w.before args s = true) ∧ meth.locks = false ∧ kF E K s s.heap ∧ meth.name = yn.name
theorem kM_of {E : gEn} {K : kEn} {yn : MethodName} {bt : ByteArray} {ml : Nat} {ret : Option FieldType} {rm : Room} {av : List Value} {ws : va_W} {P : Option Value → va_W → Prop} {mc ms : Nat} (hp : plainName yn.cls = true) (hlen : (lg_sl av).length ≤ ml)
    (h : ∀ (p : Program) (e : Env) (s : State) (m : MethodId) (args : Array Value) (below : List Frame) (meth : Method) (cc : Code), kC E K yn bt ml ret p s m args meth cc → ∀ (H : Heap) (locs : List Loc) (LS : Array Slot), va_P (gD E) vwCl ws H → va_D (gA E) ws → va_S (gA E) s.heap H locs → (∀ q : Nat, s.heap.size ≤ q → gA E q) → lv_has LS ml (lv_args 0 av) →
      W p (gl E) e rm s m args below meth cc H locs 0 0 (MQ below (kQ E P) args s mc ms (gA E)) (F0 m 0 LS [])) : kM E K yn bt ml ret rm av ws P mc ms := by
  refine Met.ofW hp rfl ?_
  intro p e s m aa below meth c s₁ Bo hml2 hv
  obtain ⟨rfl, hE, hP, hD⟩ := hv
  have hts := atoms_spec (ws := Cond.code yn bt ml ret :: kBig) Bo.pre
  have hl := lv_entry av (n := ml) hlen
  rw [lg_entry_eq]
  have hA : ∀ q : Nat, s.heap.size ≤ q → gA E q := fun q hq => by
    obtain ⟨g1, g2, g3, g4, g5, g6, g5b, g6b, g7, g8, g10, g11, g12, g13, g14, g17, g15, g16, g18⟩ := hE.1
    exact ⟨Nat.le_trans g16 hq, fun hx => absurd (g18 q hx) (by omega)⟩
  exact h p e s m _ below meth c ⟨Bo.exec, Bo.bytes, Bo.returns, hml2, findClass_of_methodNamed Bo.named, fun w hw => hts _ (List.mem_cons_of_mem _ hw), Bo.notSynchronized, hE, (name_of_methodNamed Bo.named Bo.method).1⟩ s.heap [] _ hP hD va_S.rf hA hl
section KK
variable {E : gEn} {K : kEn} {p : Program} {e : Env} {R : Room} {s : State} {m : MethodId} {args : Array Value} {below : List Frame} {meth : Method} {cc : Code} {H : Heap} {locs : List Loc} {c w pc : Nat} {LS : Array Slot} {Qq : State → Prop} {ws : va_W} {P : Option Value → va_W → Prop} {mc ms : Nat}
theorem kPc_blind {av : List Value} : FrameBlind (va_Pc av (kPc E K ws)) := by
  intro a U g mk h
  obtain ⟨h1, h2, h3⟩ := h
  exact ⟨h1, kF.to (U := U.calling g mk a) (H1 := U.heap) (State.WarmedH.refl U) h2 (Nat.le_refl _) (fun _ _ _ => rfl), h3⟩
theorem kPc_at {U : State} (hE : kF E K s s.heap) (hS : va_S (gA E) s.heap H locs) (hP : va_P (gD E) vwCl ws H) (hD : va_D (gA E) ws) (hU : U.heap = H) (hW : s.WarmedH U.vm) : kPc E K ws U := by
  unfold kPc
  rw [hU]
  exact ⟨hE.to hW hS.1 hS.2.1, hP, hD⟩
theorem k_run {st0 rest : List Value} {a2 : Array Value} (hS : va_S (gA E) s.heap H locs) (hrun : va_Run p (gl E) e R s m args below meth cc H locs c w mc ms (F0 m pc LS st0) rest (kQ E P a2) (gA E))
    (kk : ∀ (v : Option Value) (ws1 : va_W) (H1 : Heap) (locs1 : List Loc), P v ws1 → va_P (gD E) vwCl ws1 H1 → va_D (gA E) ws1 → va_S (gA E) s.heap H1 locs1 → W p (gl E) e R s m args below meth cc H1 locs1 (c + mc) (w + ms) Qq (F0 m (pc + 3) LS (v.toList ++ rest))) : W p (gl E) e R s m args below meth cc H locs c w Qq (F0 m pc LS st0) := by
  intro T hTT Xs
  obtain ⟨v, st₀, t, T', L, h0, X', hL, e1, e2, ⟨⟨v2, ws1, hv, hP1, hP, hD⟩, hF⟩, stp⟩ := hrun T hTT Xs
  cases hv
  obtain ⟨k1, k2, k3⟩ := vx_keep h0 e1 hS (fun _ _ h => h) (fun _ h => h) hL hF
  obtain ⟨t2, a1, b1⟩ := kk v ws1 T'.heap (locs ++ L) hP1 (by rw [e1]; exact hP) hD k3 T' rfl X'
  exact ⟨t2, stp t2 a1, b1⟩
/-- a static call -/
theorem k_callS {own : String} {n np ml ml2 : Nat} {yn : MethodName} {bt bt2 : ByteArray} {ret2 : Option FieldType} {rm2 : Room} {As rest : List Value} (hC : p.tables.exec = Jvm.exec ∧ cc.code = bt ∧ cc.maxLocals = ml ∧ s.vm.findClass own = some m.cls ∧ (∀ w ∈ kBig, w.before args s = true) ∧ kF E K s s.heap)
    (hd : decode bt pc = .ok (.invokestatic n, 3)) (hl : gtS own n yn bt2 ml2 ret2) (he : yn.cls ≠ "java/lang/invoke/MethodHandle" ∧ yn.cls ≠ "java/lang/invoke/VarHandle" ∧ (parseMethodDescriptor yn.desc).map (fun d => d.parameters.length) = some np) (hn : As.length = np) (hm : rm2.frames + 1 ≤ R.frames ∧ 8 + (ml2 + 11) + rm2.locals ≤ R.locals) (hz : rm2.cells = mc ∧ rm2.slots = ms)
    (hsz : LS.size = ml) (hsm : (rest.map fun v => v.category).sum ≤ 8) (hc : c + mc ≤ R.cells ∧ w + ms ≤ R.slots) (hP : va_P (gD E) vwCl ws H) (hD : va_D (gA E) ws) (hS : va_S (gA E) s.heap H locs) (hM : kM E K yn bt2 ml2 ret2 rm2 As ws P mc ms)
    (kk : ∀ (v : Option Value) (ws1 : va_W) (H1 : Heap) (locs1 : List Loc), P v ws1 → va_P (gD E) vwCl ws1 H1 → va_D (gA E) ws1 → va_S (gA E) s.heap H1 locs1 → W p (gl E) e R s m args below meth cc H1 locs1 (c + mc) (w + ms) Qq (F0 m (pc + 3) LS (v.toList ++ rest))) : W p (gl E) e R s m args below meth cc H locs c w Qq (F0 m pc LS (As.reverse ++ rest)) := by
  obtain ⟨hx, hb, hml, hown, hts, hE⟩ := hC
  obtain ⟨l1, l2, l4, l5⟩ := hl
  have hgood : GoodIn kBig (va_wsS own n yn (Cond.code yn bt2 ml2 ret2 :: kBig)) := by
    intro u hu
    unfold va_wsS at hu
    rcases List.mem_append.mp hu with hu | hu
    · simp only [List.mem_cons, List.not_mem_nil, or_false] at hu
      rcases hu with rfl | rfl | rfl
      · exact ⟨kBig_g l1, gBig_good l1⟩
      · exact ⟨kBig_g l2, gBig_good l2⟩
      · exact ⟨kBig_g l4, gBig_good l4⟩
    · rcases List.mem_cons.mp hu with rfl | hu
      · exact ⟨kBig_g l5, gBig_good l5⟩
      · exact ⟨hu, kBig_good hu⟩
  have cw := va_cwS (R := R) (s := s) (args := args) (own := own) (index := n) (y := yn) (bytes := bt2) (maxL := ml2) (ret := ret2) (mc := mc) (ms := ms) (rm := rm2) np hts hgood rfl hz.1 hz.2 he hm
  have hrun := va_runS (Ts := kBig) (g := F0 m pc LS (As.reverse ++ rest)) (As := As) (rest := rest) (H := H) (locs := locs) (cells := c) (slots := w) (e := e) (below := below) (meth := meth) ⟨hx, hb, hml, hown, hts⟩ hM cw
    ⟨kPc_blind, fun U hU hW => ⟨rfl, kPc_at hE hS hP hD hU hW⟩⟩ rfl hn hsz rfl (lv_room hsm) hd hc
  exact k_run hS hrun kk
/-- a virtual call of a method that the receiver's own class declares -/
theorem k_callV {own : String} {n np ml ml2 b : Nat} {yn : MethodName} {bt bt2 : ByteArray} {ret2 : Option FieldType} {rm2 : Room} {As rest : List Value} (hC : p.tables.exec = Jvm.exec ∧ cc.code = bt ∧ cc.maxLocals = ml ∧ s.vm.findClass own = some m.cls ∧ (∀ w ∈ kBig, w.before args s = true) ∧ kF E K s s.heap)
    (hd : decode bt pc = .ok (.invokevirtual n, 3)) (hl : gtV own n yn bt2 ml2 ret2) (he : yn.cls ≠ "java/lang/invoke/MethodHandle" ∧ yn.cls ≠ "java/lang/invoke/VarHandle" ∧ (parseMethodDescriptor yn.desc).map (fun d => d.parameters.length) = some np) (hn : As.length = np) (hm : rm2.frames + 1 ≤ R.frames ∧ 8 + (ml2 + 11) + rm2.locals ≤ R.locals) (hz : rm2.cells = mc ∧ rm2.slots = ms)
    (hrecv : ∃ cell : Cell, H[b]? = some cell ∧ cell.vm.isStatics = false ∧ s.vm.findClass yn.cls = some cell.cls)
    (hsz : LS.size = ml) (hsm : (rest.map fun v => v.category).sum ≤ 8) (hc : c + mc ≤ R.cells ∧ w + ms ≤ R.slots) (hP : va_P (gD E) vwCl ws H) (hD : va_D (gA E) ws) (hS : va_S (gA E) s.heap H locs) (hM : kM E K yn bt2 ml2 ret2 rm2 (.ref b :: As) ws P mc ms)
    (kk : ∀ (v : Option Value) (ws1 : va_W) (H1 : Heap) (locs1 : List Loc), P v ws1 → va_P (gD E) vwCl ws1 H1 → va_D (gA E) ws1 → va_S (gA E) s.heap H1 locs1 → W p (gl E) e R s m args below meth cc H1 locs1 (c + mc) (w + ms) Qq (F0 m (pc + 3) LS (v.toList ++ rest))) : W p (gl E) e R s m args below meth cc H locs c w Qq (F0 m pc LS (As.reverse ++ .ref b :: rest)) := by
  obtain ⟨hx, hb, hml, hown, hts, hE⟩ := hC
  obtain ⟨l1, l2, l3, l4, l5⟩ := hl
  have hgood : GoodIn kBig (wsV own n yn.cls yn (Cond.code yn bt2 ml2 ret2 :: kBig)) := by
    intro u hu
    unfold wsV at hu
    rcases List.mem_append.mp hu with hu | hu
    · simp only [List.mem_cons, List.not_mem_nil, or_false] at hu
      rcases hu with rfl | rfl | rfl | rfl
      · exact ⟨kBig_g l1, gBig_good l1⟩
      · exact ⟨kBig_g l2, gBig_good l2⟩
      · exact ⟨kBig_g l3, gBig_good l3⟩
      · exact ⟨kBig_g l4, gBig_good l4⟩
    · rcases List.mem_cons.mp hu with rfl | hu
      · exact ⟨kBig_g l5, gBig_good l5⟩
      · exact ⟨hu, kBig_good hu⟩
  have cw : CallW R s args own yn.cls n yn bt2 ml2 ret2 (Cond.code yn bt2 ml2 ret2 :: kBig) rm2 mc ms np := cwV np hts hgood rfl hz.1 hz.2 ⟨rfl, he⟩ hm
  have hrun := va_runV (Ts := kBig) (g := F0 m pc LS (As.reverse ++ .ref b :: rest)) (As := As) (rest := rest) (b := b) (H := H) (locs := locs) (cells := c) (slots := w) (e := e) (below := below) (meth := meth) ⟨hx, hb, hml, hown, hts⟩ hM cw
    ⟨kPc_blind, hrecv, fun U hU hW => ⟨rfl, kPc_at hE hS hP hD hU hW⟩⟩ rfl hn hsz rfl (lv_room hsm) hd hc
  exact k_run hS hrun kk
/-- a virtual call of a method of a class above the receiver's own -/
theorem k_callU {own C : String} {n np ml ml2 b : Nat} {yn : MethodName} {bt bt2 : ByteArray} {ret2 : Option FieldType} {rm2 : Room} {As rest : List Value} (hC : p.tables.exec = Jvm.exec ∧ cc.code = bt ∧ cc.maxLocals = ml ∧ s.vm.findClass own = some m.cls ∧ (∀ w ∈ kBig, w.before args s = true) ∧ kF E K s s.heap)
    (hd : decode bt pc = .ok (.invokevirtual n, 3)) (hl : Cond.methodLink own n yn ∈ gBig ∧ Cond.sameMethod yn.cls yn.cls yn.name yn.desc ∈ gBig ∧ Cond.instanceMethod yn ∈ gBig ∧ Cond.initialized yn.cls ∈ gBig ∧ Cond.code yn bt2 ml2 ret2 ∈ gBig) (hsel : Cond.selects C yn yn ∈ kBig)
    (he : yn.cls ≠ "java/lang/invoke/MethodHandle" ∧ yn.cls ≠ "java/lang/invoke/VarHandle" ∧ (parseMethodDescriptor yn.desc).map (fun d => d.parameters.length) = some np) (hn : As.length = np) (hm : rm2.frames + 1 ≤ R.frames ∧ 8 + (ml2 + 11) + rm2.locals ≤ R.locals) (hz : rm2.cells = mc ∧ rm2.slots = ms)
    (hrecv : ∃ cell : Cell, H[b]? = some cell ∧ cell.vm.isStatics = false ∧ s.vm.findClass C = some cell.cls)
    (hsz : LS.size = ml) (hsm : (rest.map fun v => v.category).sum ≤ 8) (hc : c + mc ≤ R.cells ∧ w + ms ≤ R.slots) (hP : va_P (gD E) vwCl ws H) (hD : va_D (gA E) ws) (hS : va_S (gA E) s.heap H locs) (hM : kM E K yn bt2 ml2 ret2 rm2 (.ref b :: As) ws P mc ms)
    (kk : ∀ (v : Option Value) (ws1 : va_W) (H1 : Heap) (locs1 : List Loc), P v ws1 → va_P (gD E) vwCl ws1 H1 → va_D (gA E) ws1 → va_S (gA E) s.heap H1 locs1 → W p (gl E) e R s m args below meth cc H1 locs1 (c + mc) (w + ms) Qq (F0 m (pc + 3) LS (v.toList ++ rest))) : W p (gl E) e R s m args below meth cc H locs c w Qq (F0 m pc LS (As.reverse ++ .ref b :: rest)) := by
  obtain ⟨hx, hb, hml, hown, hts, hE⟩ := hC
  obtain ⟨l1, l2, l3, l4, l5⟩ := hl
  have hgood : GoodIn kBig (va_wsU own n C yn.cls yn yn (Cond.code yn bt2 ml2 ret2 :: kBig)) := by
    intro u hu
    unfold va_wsU at hu
    rcases List.mem_append.mp hu with hu | hu
    · simp only [List.mem_cons, List.not_mem_nil, or_false] at hu
      rcases hu with rfl | rfl | rfl | rfl | rfl
      · exact ⟨kBig_g l1, gBig_good l1⟩
      · exact ⟨kBig_g l2, gBig_good l2⟩
      · exact ⟨hsel, kBig_good hsel⟩
      · exact ⟨kBig_g l3, gBig_good l3⟩
      · exact ⟨kBig_g l4, gBig_good l4⟩
    · rcases List.mem_cons.mp hu with rfl | hu
      · exact ⟨kBig_g l5, gBig_good l5⟩
      · exact ⟨hu, kBig_good hu⟩
  have cw : va_CU R s args own C yn.cls n yn yn bt2 ml2 ret2 (Cond.code yn bt2 ml2 ret2 :: kBig) rm2 mc ms np := va_cwU np hts hgood rfl hz.1 hz.2 rfl he hm
  have hrun := va_runU (Ts := kBig) (g := F0 m pc LS (As.reverse ++ .ref b :: rest)) (As := As) (rest := rest) (b := b) (H := H) (locs := locs) (cells := c) (slots := w) (e := e) (below := below) (meth := meth) ⟨hx, hb, hml, hown, hts⟩ hM cw
    ⟨kPc_blind, hrecv, fun U hU hW => ⟨rfl, kPc_at hE hS hP hD hU hW⟩⟩ rfl hn hsz rfl (lv_room hsm) hd hc
  exact k_run hS hrun kk
theorem k_zret {x : Int32} {ty : FieldType} {bt : ByteArray} (hx : p.tables.exec = Jvm.exec) (hb : cc.code = bt) (hr : meth.sig.returnType = some ty) (hlk : meth.locks = false) (hn : narrow ty (.int x) = .int x) (hd : decode bt pc = .ok (.ireturn, 1)) (hP : va_P (gD E) vwCl ws H) (hD : va_D (gA E) ws) (hS : va_S (gA E) s.heap H locs) (hq : P (some (.int x)) ws) :
    W p (gl E) e R s m args below meth cc H locs mc ms (MQ below (kQ E P) args s mc ms (gA E)) (F0 m pc LS [.int x]) :=
  W.zret (v := x) hx hb hr hn (fun t ht hW => ⟨⟨_, ws, rfl, hq, by rw [ht]; exact hP, hD⟩, hS.F ht⟩) hS.2.2 hd hlk
theorem k_aret {a : Nat} {rt : FieldType} {bt : ByteArray} (hx : p.tables.exec = Jvm.exec) (hb : cc.code = bt) (hr : meth.sig.returnType = some rt) (hrt : (∃ n, rt = .object n) ∨ ∃ t, rt = .array t) (hlk : meth.locks = false) (hd : decode bt pc = .ok (.areturn, 1)) (hP : va_P (gD E) vwCl ws H) (hD : va_D (gA E) ws) (hS : va_S (gA E) s.heap H locs) (hq : P (some (.ref a)) ws) :
    W p (gl E) e R s m args below meth cc H locs mc ms (MQ below (kQ E P) args s mc ms (gA E)) (F0 m pc LS [.ref a]) :=
  W.aret hx hb hr hrt (Or.inr ⟨a, rfl⟩) (fun t ht hW => ⟨⟨_, ws, rfl, hq, by rw [ht]; exact hP, hD⟩, hS.F ht⟩) hS.2.2 hd hlk
theorem k_vret {bt : ByteArray} (hx : p.tables.exec = Jvm.exec) (hb : cc.code = bt) (hr : meth.sig.returnType = none) (hlk : meth.locks = false) (hd : decode bt pc = .ok (.return_, 1)) (hP : va_P (gD E) vwCl ws H) (hD : va_D (gA E) ws) (hS : va_S (gA E) s.heap H locs) (hq : P none ws) :
    W p (gl E) e R s m args below meth cc H locs mc ms (MQ below (kQ E P) args s mc ms (gA E)) (F0 m pc LS []) :=
  W.vret hx hb hr (fun t ht hW => ⟨⟨_, ws, rfl, hq, by rw [ht]; exact hP, hD⟩, hS.F ht⟩) hS.2.2 hd hlk
/-- a private method of a class above the receiver's own -/
theorem k_selpriv {C C0 : String} {y x0 y0 : MethodName} {n : Nat} (h0 : (Cond.selects C0 x0 y0).before args s = true) (hcls : y0.cls = y.cls) (hy : y.cls ≠ "java/lang/invoke/MethodHandle" ∧ y.cls ≠ "java/lang/invoke/VarHandle")
    (hins : (Cond.instantiable C n).before args s = true) (hpriv : (Cond.privateMethod y).before args s = true) (hinst : (Cond.instanceMethod y).before args s = true) : (Cond.selects C y y).before args s = true := by
  obtain ⟨c, k, hc, hk, -, hniab, -, -⟩ := Cond.instantiable_spec hins
  have hni : k.isInterface = false := (Bool.or_eq_false_iff.mp hniab).1
  obtain ⟨mk, methM, hnamed, hmethM, -, -⟩ := Cond.instanceMethod_spec hinst
  have hfound : s.methodFound? y.cls y.name y.desc = some mk := State.methodFound?_of_named hnamed hy
  have hsel : selectMethod {} s.vm c mk = .method mk := selectMethod_private hmethM (Cond.privateMethod_at hpriv mk methM hnamed hmethM)
  obtain ⟨-, -, m0, -, -, hm0, -, k0, hk0, hi0⟩ := Cond.selects_spec h0
  have e0 : m0.cls = mk.cls := by
    have g1 := findClass_of_methodNamed hm0
    rw [hcls, findClass_of_methodNamed hnamed] at g1
    exact (Option.some.inj g1).symm
  rw [e0] at hk0
  simp only [Cond.before, Cond.holds, Cond.value, hc, hfound, hnamed, hsel, hk]
  simp [hk0, hi0]
end KK
