/-! ===== the text constants, and the text that the law has made ===== -/
abbrev gTlE (E : gEn) : List Nat := gTl ++ [(gTx E).length]
abbrev gTbE (E : gEn) : List (List Int32) := gTb ++ [gTx E]
def txOk (E : gEn) : Prop := (gTx E).length ≤ 1000 ∧ ∀ x ∈ gTx E, 0 ≤ x.toInt ∧ x.toInt < 128
def gOkT (E : gEn) (m : Nat) : Prop := m < 7 ∧ (m = 6 → txOk E)
theorem gws_sv : Cond.fieldLink "java/lang/String" 9 "java/lang/String" "value" "[B" ∈ gBig := gBig_of (gpc6 (List.mem_of_getElem? (i := 197) rfl)) rfl
theorem gws_sc : Cond.fieldLink "java/lang/String" 15 "java/lang/String" "coder" "B" ∈ gBig := gBig_of (gpc6 (List.mem_of_getElem? (i := 198) rfl)) rfl
theorem gws_cs : Cond.fieldLink "java/lang/String" 38 "java/lang/String" "COMPACT_STRINGS" "Z" ∈ gBig := gBig_of (gpc2 (List.mem_of_getElem? (i := 111) rfl)) rfl
theorem gws_17 : Cond.initialized "java/lang/String" ∈ gBig := gBig_of (gpc1 (List.mem_of_getElem? (i := 5) rfl)) rfl
theorem gws_18 : Cond.initialized "java/lang/StringLatin1" ∈ gBig := gBig_of (gpc1 (List.mem_of_getElem? (i := 12) rfl)) rfl
theorem gws_19 : Cond.initialized "jdk/internal/util/Preconditions" ∈ gBig := gBig_of (gpc1 (List.mem_of_getElem? (i := 11) rfl)) rfl
theorem gws_209 : Cond.methodLink "java/lang/String" 335 yJ0_coder_7d493 ∈ gBig := gBig_of (gpc2 (List.mem_of_getElem? (i := 107) rfl)) rfl
theorem gws_210 : Cond.instanceMethod yJ0_coder_7d493 ∈ gBig := gBig_of (gpc2 (List.mem_of_getElem? (i := 108) rfl)) rfl
theorem gws_211 : Cond.selects "java/lang/String" yJ0_coder_7d493 yJ0_coder_7d493 ∈ gBig := gBig_of (gpc2 (List.mem_of_getElem? (i := 109) rfl)) rfl
theorem gws_212 : Cond.code yJ0_coder_7d493 cJ0_coder_7d493 1 (some .byte) ∈ gBig := gBig_of (gpc2 (List.mem_of_getElem? (i := 110) rfl)) rfl
theorem gws_219 : Cond.methodLink "java/lang/String" 492 yJ0_isLatin1_aae02 ∈ gBig := gBig_of (gpc3 (List.mem_of_getElem? (i := 105) rfl)) rfl
theorem gws_220 : Cond.instanceMethod yJ0_isLatin1_aae02 ∈ gBig := gBig_of (gpc3 (List.mem_of_getElem? (i := 106) rfl)) rfl
theorem gws_221 : Cond.selects "java/lang/String" yJ0_isLatin1_aae02 yJ0_isLatin1_aae02 ∈ gBig := gBig_of (gpc3 (List.mem_of_getElem? (i := 107) rfl)) rfl
theorem gws_222 : Cond.code yJ0_isLatin1_aae02 cJ0_isLatin1_aae02 1 (some .boolean) ∈ gBig := gBig_of (gpc3 (List.mem_of_getElem? (i := 108) rfl)) rfl
theorem gws_223 : Cond.methodLink "java/lang/String" 495 yJ1_charAt_3b067 ∈ gBig := gBig_of (gpc3 (List.mem_of_getElem? (i := 109) rfl)) rfl
theorem gws_224 : Cond.static yJ1_charAt_3b067 ∈ gBig := gBig_of (gpc3 (List.mem_of_getElem? (i := 110) rfl)) rfl
theorem gws_225 : Cond.code yJ1_charAt_3b067 cJ1_charAt_3b067 2 (some .char) ∈ gBig := gBig_of (gpc3 (List.mem_of_getElem? (i := 111) rfl)) rfl
theorem gws_226 : Cond.methodLink "java/lang/StringLatin1" 9 yJ0_checkIndex_df160 ∈ gBig := gBig_of (gpc3 (List.mem_of_getElem? (i := 112) rfl)) rfl
theorem gws_227 : Cond.static yJ0_checkIndex_df160 ∈ gBig := gBig_of (gpc3 (List.mem_of_getElem? (i := 62) rfl)) rfl
theorem gws_228 : Cond.code yJ0_checkIndex_df160 cJ0_checkIndex_df160 2 none ∈ gBig := gBig_of (gpc3 (List.mem_of_getElem? (i := 63) rfl)) rfl
theorem gws_229 : Cond.fieldLink "java/lang/String" 1053 "jdk/internal/util/Preconditions" "SIOOBE_FORMATTER" "Ljava/util/function/BiFunction;" ∈ gBig := gBig_of (gpc2 (List.mem_of_getElem? (i := 192) rfl)) rfl
theorem gws_231 : Cond.methodLink "java/lang/String" 1059 yJ3_checkIndex_8e157 ∈ gBig := gBig_of (gpc3 (List.mem_of_getElem? (i := 64) rfl)) rfl
theorem gws_232 : Cond.static yJ3_checkIndex_8e157 ∈ gBig := gBig_of (gpc3 (List.mem_of_getElem? (i := 65) rfl)) rfl
theorem gws_233 : Cond.code yJ3_checkIndex_8e157 cJ3_checkIndex_8e157 3 (some .int) ∈ gBig := gBig_of (gpc3 (List.mem_of_getElem? (i := 66) rfl)) rfl
def gtQ (E : gEn) (ad : gR → Nat) (I : gI) (J : gJ) (B : gB) (v : Option Value) : Array Value → State → Outcome → State → Prop := fun _ st o t => (o = .returned v ∧ gRep E ad I J B t.heap) ∧ va_F (gA E) st t
def gtX : String → State → State → Prop := fun _ _ _ => False
/-- a method that answers v and changes nothing -/
def gtM (E : gEn) (yn : MethodName) (bt : ByteArray) (ml : Nat) (ret : Option FieldType) (rm : Room) (av : List Value) (v : Option Value) : Prop := ∀ (ad : gR → Nat) (I : gI) (J : gJ) (B : gB), vx_Met (gl E) yn (Cond.code yn bt ml ret :: gBig) rm (va_Pc av (fun U => gEv E U U.heap ∧ gRep E ad I J B U.heap)) (gtQ E ad I J B v) gtX 0 0 (gA E)
def gtC (E : gEn) (yn : MethodName) (bt : ByteArray) (ml : Nat) (ret : Option FieldType) (p : Program) (s : State) (m : MethodId) (args : Array Value) (meth : Method) (cc : Code) : Prop :=
  p.tables.exec = Jvm.exec ∧ cc.code = bt ∧ meth.sig.returnType = ret ∧ cc.maxLocals = ml ∧ s.vm.findClass yn.cls = some m.cls ∧ (∀ w ∈ gBig, w.before args s = true) ∧ meth.locks = false ∧ gEv E s s.heap
theorem gtM_of {E : gEn} {yn : MethodName} {bt : ByteArray} {ml : Nat} {ret : Option FieldType} {rm : Room} {av : List Value} {v : Option Value} (hp : plainFor yn = true) (hlen : (lg_sl av).length ≤ ml)
    (h : ∀ (p : Program) (e : Env) (s : State) (m : MethodId) (args : Array Value) (below : List Frame) (meth : Method) (cc : Code) (ad : gR → Nat) (I : gI) (J : gJ) (B : gB), gtC E yn bt ml ret p s m args meth cc → ∀ (H : Heap) (locs : List Loc) (LS : Array Slot), gRep E ad I J B H → va_S (gA E) s.heap H locs → lv_has LS ml (lv_args 0 av) →
      W p (gl E) e rm s m args below meth cc H locs 0 0 (vx_MQ below (gtQ E ad I J B v) gtX args s 0 0 (gA E)) (F0 m 0 LS [])) : gtM E yn bt ml ret rm av v := by
  intro ad I J B
  refine gx_ofW hp rfl ?_
  intro p e s m aa below meth c s₁ Bo hml2 hx hv
  obtain ⟨rfl, hE, hR⟩ := hv
  have hts := atoms_spec (ws := Cond.code yn bt ml ret :: gBig) Bo.pre
  have hl := lv_entry av (n := ml) hlen
  rw [lg_entry_eq]
  exact h p e s m _ below meth c ad I J B ⟨Bo.exec, Bo.bytes, Bo.returns, hml2, findClass_of_methodNamed Bo.named, fun w hw => hts _ (List.mem_cons_of_mem _ hw), Bo.notSynchronized, hE⟩ s.heap [] _ hR va_S.rf hl
section TXT
variable {E : gEn} {p : Program} {e : Env} {R : Room} {s : State} {m : MethodId} {args : Array Value} {below : List Frame} {meth : Method} {cc : Code} {H : Heap} {locs : List Loc} {c w pc : Nat} {LS : Array Slot} {Qq : State → Prop} {ad : gR → Nat} {I : gI} {J : gJ} {B : gB}
theorem gt_run {st0 rest : List Value} {v : Option Value} {a2 : Array Value} (hS : va_S (gA E) s.heap H locs) (hrun : vx_Run p (gl E) e R s m args below meth cc H locs c w 0 0 (F0 m pc LS st0) rest (gtQ E ad I J B v a2) gtX (gA E))
    (kk : ∀ (H1 : Heap) (locs1 : List Loc), gRep E ad I J B H1 → va_S (gA E) s.heap H1 locs1 → W p (gl E) e R s m args below meth cc H1 locs1 c w Qq (F0 m (pc + 3) LS (v.toList ++ rest))) : W p (gl E) e R s m args below meth cc H locs c w Qq (F0 m pc LS st0) := by
  intro T hTT Xs
  rcases hrun T hTT Xs with ⟨v2, st₀, t, T', L, h0, X', hL, e1, e2, ⟨⟨hv, hR⟩, hF⟩, stp⟩ | ⟨q, st₀, t, T', L, En, ce, h0, X', hL, e1, e2, hf, -⟩
  · cases hv
    obtain ⟨k1, k2, k3⟩ := vx_keep h0 e1 hS (fun _ _ h => h) (fun _ h => h) hL hF
    obtain ⟨t2, a1, b1⟩ := kk T'.heap (locs ++ L) (by rw [e1]; exact hR) k3 T' rfl X'
    exact ⟨t2, stp t2 a1, b1⟩
  · exact hf.elim
/-- the words of a call -/
def gtV (own : String) (n : Nat) (yn : MethodName) (bt : ByteArray) (ml : Nat) (ret : Option FieldType) : Prop := Cond.methodLink own n yn ∈ gBig ∧ Cond.instanceMethod yn ∈ gBig ∧ Cond.selects yn.cls yn yn ∈ gBig ∧ Cond.initialized yn.cls ∈ gBig ∧ Cond.code yn bt ml ret ∈ gBig
def gtS (own : String) (n : Nat) (yn : MethodName) (bt : ByteArray) (ml : Nat) (ret : Option FieldType) : Prop := Cond.methodLink own n yn ∈ gBig ∧ Cond.static yn ∈ gBig ∧ Cond.initialized yn.cls ∈ gBig ∧ Cond.code yn bt ml ret ∈ gBig
theorem gt_callV {own : String} {n np ml ml2 b : Nat} {yn : MethodName} {bt bt2 : ByteArray} {ret2 : Option FieldType} {rm2 : Room} {As rest : List Value} {v : Option Value} (hx : p.tables.exec = Jvm.exec) (hb : cc.code = bt) (hml : cc.maxLocals = ml) (hown : s.vm.findClass own = some m.cls) (hts : ∀ w ∈ gBig, w.before args s = true) (hE : gEv E s s.heap)
    (hd : decode bt pc = .ok (.invokevirtual n, 3)) (hl : gtV own n yn bt2 ml2 ret2) (he : yn.cls ≠ "java/lang/invoke/MethodHandle" ∧ yn.cls ≠ "java/lang/invoke/VarHandle" ∧ (parseMethodDescriptor yn.desc).map (fun d => d.parameters.length) = some np) (hn : As.length = np) (hm : rm2.frames + 1 ≤ R.frames ∧ 8 + (ml2 + 11) + rm2.locals ≤ R.locals) (hz : rm2.cells = 0 ∧ rm2.slots = 0)
    (hrecv : ∃ cell : Cell, H[b]? = some cell ∧ cell.vm.isStatics = false ∧ s.vm.findClass yn.cls = some cell.cls)
    (hsz : LS.size = ml) (hsm : (rest.map fun v => v.category).sum ≤ 8) (hc : c ≤ R.cells ∧ w ≤ R.slots) (hR : gRep E ad I J B H) (hS : va_S (gA E) s.heap H locs) (hM : gtM E yn bt2 ml2 ret2 rm2 (.ref b :: As) v)
    (kk : ∀ (H1 : Heap) (locs1 : List Loc), gRep E ad I J B H1 → va_S (gA E) s.heap H1 locs1 → W p (gl E) e R s m args below meth cc H1 locs1 c w Qq (F0 m (pc + 3) LS (v.toList ++ rest))) : W p (gl E) e R s m args below meth cc H locs c w Qq (F0 m pc LS (As.reverse ++ .ref b :: rest)) := by
  obtain ⟨l1, l2, l3, l4, l5⟩ := hl
  have hgood : GoodIn gBig (wsV own n yn.cls yn (Cond.code yn bt2 ml2 ret2 :: gBig)) := by
    intro u hu
    unfold wsV at hu
    rcases List.mem_append.mp hu with hu | hu
    · simp only [List.mem_cons, List.not_mem_nil, or_false] at hu
      rcases hu with rfl | rfl | rfl | rfl
      · exact ⟨l1, gBig_good l1⟩
      · exact ⟨l2, gBig_good l2⟩
      · exact ⟨l3, gBig_good l3⟩
      · exact ⟨l4, gBig_good l4⟩
    · rcases List.mem_cons.mp hu with rfl | hu
      · exact ⟨l5, gBig_good l5⟩
      · exact ⟨hu, gBig_good hu⟩
  have cw : CallW R s args own yn.cls n yn bt2 ml2 ret2 (Cond.code yn bt2 ml2 ret2 :: gBig) rm2 0 0 np := cwV np hts hgood rfl hz.1 hz.2 ⟨rfl, he⟩ hm
  have hrun := vx_runV (Ts := gBig) (g := F0 m pc LS (As.reverse ++ .ref b :: rest)) (As := As) (rest := rest) (b := b) (H := H) (locs := locs) (cells := c) (slots := w) (e := e) (below := below) (meth := meth) ⟨hx, hb, hml, hown, hts⟩ (hM ad I J B) cw
    ⟨gPc_blind, hrecv, fun U hU hW => ⟨rfl, gPc_at hE hS hR hU hW⟩⟩ rfl hn hsz rfl (lv_room hsm) hd hc
  exact gt_run hS hrun kk
theorem gt_callS {own : String} {n np ml ml2 : Nat} {yn : MethodName} {bt bt2 : ByteArray} {ret2 : Option FieldType} {rm2 : Room} {As rest : List Value} {v : Option Value} (hx : p.tables.exec = Jvm.exec) (hb : cc.code = bt) (hml : cc.maxLocals = ml) (hown : s.vm.findClass own = some m.cls) (hts : ∀ w ∈ gBig, w.before args s = true) (hE : gEv E s s.heap)
    (hd : decode bt pc = .ok (.invokestatic n, 3)) (hl : gtS own n yn bt2 ml2 ret2) (he : yn.cls ≠ "java/lang/invoke/MethodHandle" ∧ yn.cls ≠ "java/lang/invoke/VarHandle" ∧ (parseMethodDescriptor yn.desc).map (fun d => d.parameters.length) = some np) (hn : As.length = np) (hm : rm2.frames + 1 ≤ R.frames ∧ 8 + (ml2 + 11) + rm2.locals ≤ R.locals) (hz : rm2.cells = 0 ∧ rm2.slots = 0)
    (hsz : LS.size = ml) (hsm : (rest.map fun v => v.category).sum ≤ 8) (hc : c ≤ R.cells ∧ w ≤ R.slots) (hR : gRep E ad I J B H) (hS : va_S (gA E) s.heap H locs) (hM : gtM E yn bt2 ml2 ret2 rm2 As v)
    (kk : ∀ (H1 : Heap) (locs1 : List Loc), gRep E ad I J B H1 → va_S (gA E) s.heap H1 locs1 → W p (gl E) e R s m args below meth cc H1 locs1 c w Qq (F0 m (pc + 3) LS (v.toList ++ rest))) : W p (gl E) e R s m args below meth cc H locs c w Qq (F0 m pc LS (As.reverse ++ rest)) := by
  obtain ⟨l1, l2, l4, l5⟩ := hl
  have hgood : GoodIn gBig (va_wsS own n yn (Cond.code yn bt2 ml2 ret2 :: gBig)) := by
    intro u hu
    unfold va_wsS at hu
    rcases List.mem_append.mp hu with hu | hu
    · simp only [List.mem_cons, List.not_mem_nil, or_false] at hu
      rcases hu with rfl | rfl | rfl
      · exact ⟨l1, gBig_good l1⟩
      · exact ⟨l2, gBig_good l2⟩
      · exact ⟨l4, gBig_good l4⟩
    · rcases List.mem_cons.mp hu with rfl | hu
      · exact ⟨l5, gBig_good l5⟩
      · exact ⟨hu, gBig_good hu⟩
  have cw := va_cwS (R := R) (s := s) (args := args) (own := own) (index := n) (y := yn) (bytes := bt2) (maxL := ml2) (ret := ret2) (mc := 0) (ms := 0) (rm := rm2) np hts hgood rfl hz.1 hz.2 he hm
  have hrun := vx_runS (Ts := gBig) (g := F0 m pc LS (As.reverse ++ rest)) (As := As) (rest := rest) (H := H) (locs := locs) (cells := c) (slots := w) (e := e) (below := below) (meth := meth) ⟨hx, hb, hml, hown, hts⟩ (hM ad I J B) cw
    ⟨gPc_blind, fun U hU hW => ⟨rfl, gPc_at hE hS hR hU hW⟩⟩ rfl hn hsz rfl (lv_room hsm) hd hc
  exact gt_run hS hrun kk
theorem gt_zret {x : Int32} {ty : FieldType} {bt : ByteArray} (hx : p.tables.exec = Jvm.exec) (hb : cc.code = bt) (hr : meth.sig.returnType = some ty) (hlk : meth.locks = false) (hn : narrow ty (.int x) = .int x) (hd : decode bt pc = .ok (.ireturn, 1)) (hR : gRep E ad I J B H) (hS : va_S (gA E) s.heap H locs) :
    W p (gl E) e R s m args below meth cc H locs 0 0 (vx_MQ below (gtQ E ad I J B (some (.int x))) gtX args s 0 0 (gA E)) (F0 m pc LS [.int x]) :=
  vx_ret (W.zret (v := x) hx hb hr hn (fun t ht hW => ⟨⟨rfl, by rw [ht]; exact hR⟩, hS.F ht⟩) hS.2.2 hd hlk)
theorem gt_vret {bt : ByteArray} (hx : p.tables.exec = Jvm.exec) (hb : cc.code = bt) (hr : meth.sig.returnType = none) (hlk : meth.locks = false) (hd : decode bt pc = .ok (.return_, 1)) (hR : gRep E ad I J B H) (hS : va_S (gA E) s.heap H locs) :
    W p (gl E) e R s m args below meth cc H locs 0 0 (vx_MQ below (gtQ E ad I J B none) gtX args s 0 0 (gA E)) (F0 m pc LS []) :=
  vx_ret (W.vret hx hb hr (fun t ht hW => ⟨⟨rfl, by rw [ht]; exact hR⟩, hS.F ht⟩) hS.2.2 hd hlk)
end TXT
theorem gt_nat (n : Nat) : Int32.ofNat n = gi (n : Int) := by
  apply Int32.toBitVec_inj.mp
  show BitVec.ofNat 32 n = BitVec.ofInt 32 (n : Int)
  rw [BitVec.ofInt_natCast]
section TX2
variable {E : gEn} {m : Nat}
theorem gt_coder (hm : gOkT E m) : gtM E yJ0_coder_7d493 cJ0_coder_7d493 1 (some .byte) { frames := 1, cells := 0, slots := 0, locals := 20 } [.ref (gax E (2, m, 0))] (some (.int 0)) := by
  refine gtM_of (by decide) (Nat.le_of_ble_eq_true rfl) ?_
  intro p e s m' args below meth cc ad I J B hC H locs LS hR hS hl
  obtain ⟨hx, hb, hr, hml, hown, hts, hlk, hE⟩ := hC
  obtain ⟨g1, g2, g3, g4, g5, g6, g5b, g6b, g7, g8, g10, g11, g12, g13, g14, g17, g15, g16⟩ := id hE
  have hV := g12.1 m hm.1
  refine va_gets hx hb g13 hS hown (hts _ gws_cs) (fun _ h => h) (show decode cJ0_coder_7d493 0 = .ok (.getstatic 38, 3) by decide +kernel) ?_
  refine lv_if_eq hx hb (show decode cJ0_coder_7d493 3 = .ok (.ifCond .eq 10, 3) by decide +kernel) (tgt := 13) rfl (fun z => absurd z (by decide)) (fun _ => ?_)
  refine lv_aload_n hx hb (show decode cJ0_coder_7d493 6 = .ok (.aload_n 0, 1) by decide +kernel) rfl (lv_at hl 0 rfl) ?_
  refine vk_getf hx hb hV.2.1 hS hown (hts _ gws_sc) (fun _ h => h) (show decode cJ0_coder_7d493 7 = .ok (.getfield 15, 3) by decide +kernel) ?_
  refine lv_goto hx hb (show decode cJ0_coder_7d493 10 = .ok (.goto 4, 3) by decide +kernel) (tgt := 14) rfl ?_
  exact gt_zret hx hb hr hlk rfl (by decide +kernel) hR hS
theorem gt_isLatin1 (hm : gOkT E m) : gtM E yJ0_isLatin1_aae02 cJ0_isLatin1_aae02 1 (some .boolean) { frames := 1, cells := 0, slots := 0, locals := 20 } [.ref (gax E (2, m, 0))] (some (.int 1)) := by
  refine gtM_of (by decide) (Nat.le_of_ble_eq_true rfl) ?_
  intro p e s m' args below meth cc ad I J B hC H locs LS hR hS hl
  obtain ⟨hx, hb, hr, hml, hown, hts, hlk, hE⟩ := hC
  obtain ⟨g1, g2, g3, g4, g5, g6, g5b, g6b, g7, g8, g10, g11, g12, g13, g14, g17, g15, g16⟩ := id hE
  have hV := g12.1 m hm.1
  refine va_gets hx hb g13 hS hown (hts _ gws_cs) (fun _ h => h) (show decode cJ0_isLatin1_aae02 0 = .ok (.getstatic 38, 3) by decide +kernel) ?_
  refine lv_if_eq hx hb (show decode cJ0_isLatin1_aae02 3 = .ok (.ifCond .eq 14, 3) by decide +kernel) (tgt := 17) rfl (fun z => absurd z (by decide)) (fun _ => ?_)
  refine lv_aload_n hx hb (show decode cJ0_isLatin1_aae02 6 = .ok (.aload_n 0, 1) by decide +kernel) rfl (lv_at hl 0 rfl) ?_
  refine vk_getf hx hb hV.2.1 hS hown (hts _ gws_sc) (fun _ h => h) (show decode cJ0_isLatin1_aae02 7 = .ok (.getfield 15, 3) by decide +kernel) ?_
  refine lv_if_ne hx hb (show decode cJ0_isLatin1_aae02 10 = .ok (.ifCond .ne 7, 3) by decide +kernel) (tgt := 17) rfl (fun z => absurd rfl z) (fun _ => ?_)
  refine lv_iconst hx hb (show decode cJ0_isLatin1_aae02 13 = .ok (.iconst 1, 1) by decide +kernel) rfl ?_
  refine lv_goto hx hb (show decode cJ0_isLatin1_aae02 14 = .ok (.goto 4, 3) by decide +kernel) (tgt := 18) rfl ?_
  exact gt_zret hx hb hr hlk (by decide) (by decide +kernel) hR hS
theorem gt_check3 {i n : Int32} {v : Value} (hv : v = .null ∨ ∃ t, v = .ref t) (h0 : ¬ i < 0) (h1 : i < n) : gtM E yJ3_checkIndex_8e157 cJ3_checkIndex_8e157 3 (some .int) { frames := 1, cells := 0, slots := 0, locals := 20 } [.int i, .int n, v] (some (.int i)) := by
  have hl3 : lv_args 0 [.int i, .int n, v] = [(0, .int i), (1, .int n), (2, v)] := by rcases hv with rfl | ⟨t, rfl⟩ <;> rfl
  have hlen : (lg_sl [.int i, .int n, v]).length ≤ 3 := by rcases hv with rfl | ⟨t, rfl⟩ <;> exact Nat.le_of_ble_eq_true rfl
  refine gtM_of (by decide) hlen ?_
  intro p e s m' args below meth cc ad I J B hC H locs LS hR hS hl
  rw [hl3] at hl
  obtain ⟨hx, hb, hr, hml, hown, hts, hlk, hE⟩ := hC
  refine lv_iload_n hx hb (show decode cJ3_checkIndex_8e157 0 = .ok (.iload_n 0, 1) by decide +kernel) rfl (lv_at hl 0 rfl) ?_
  refine lv_if_lt hx hb (show decode cJ3_checkIndex_8e157 1 = .ok (.ifCond .lt 8, 3) by decide +kernel) (tgt := 9) rfl (fun z => absurd z h0) (fun _ => ?_)
  refine lv_iload_n hx hb (show decode cJ3_checkIndex_8e157 4 = .ok (.iload_n 0, 1) by decide +kernel) rfl (lv_at hl 0 rfl) ?_
  refine lv_iload_n hx hb (show decode cJ3_checkIndex_8e157 5 = .ok (.iload_n 1, 1) by decide +kernel) rfl (lv_at hl 1 rfl) ?_
  refine lv_icmp_lt hx hb (show decode cJ3_checkIndex_8e157 6 = .ok (.if_icmp .lt 10, 3) by decide +kernel) (tgt := 16) rfl (fun _ => ?_) (fun z => absurd h1 z)
  refine lv_iload_n hx hb (show decode cJ3_checkIndex_8e157 16 = .ok (.iload_n 0, 1) by decide +kernel) rfl (lv_at hl 0 rfl) ?_
  exact gt_zret hx hb hr hlk rfl (by decide +kernel) hR hS
theorem gt_check {i n : Int32} (h0 : ¬ i < 0) (h1 : i < n) : gtM E yJ0_checkIndex_df160 cJ0_checkIndex_df160 2 none { frames := 2, cells := 0, slots := 0, locals := 42 } [.int i, .int n] none := by
  refine gtM_of (by decide) (Nat.le_of_ble_eq_true rfl) ?_
  intro p e s m' args below meth cc ad I J B hC H locs LS hR hS hl
  have hl : lv_has LS 2 [(0, .int i), (1, .int n)] := hl
  obtain ⟨hx, hb, hr, hml, hown, hts, hlk, hE⟩ := hC
  obtain ⟨g1, g2, g3, g4, g5, g6, g5b, g6b, g7, g8, g10, g11, g12, g13, g14, g17, g15, g16⟩ := id hE
  have hf : ∃ v : Value, (v = .null ∨ ∃ t, v = .ref t) ∧ va_Z "jdk/internal/util/Preconditions" "SIOOBE_FORMATTER" "Ljava/util/function/BiFunction;" v (gA E) s s.heap := by
    rcases g14 with h | ⟨t, h⟩
    · exact ⟨_, Or.inl rfl, h⟩
    · exact ⟨_, Or.inr ⟨t, rfl⟩, h⟩
  obtain ⟨v, hv, hZ⟩ := hf
  refine lv_iload_n hx hb (show decode cJ0_checkIndex_df160 0 = .ok (.iload_n 0, 1) by decide +kernel) rfl (lv_at hl 0 rfl) ?_
  refine lv_iload_n hx hb (show decode cJ0_checkIndex_df160 1 = .ok (.iload_n 1, 1) by decide +kernel) rfl (lv_at hl 1 rfl) ?_
  refine va_gets hx hb hZ hS hown (hts _ gws_229) (fun _ h => h) (show decode cJ0_checkIndex_df160 2 = .ok (.getstatic 1053, 3) by decide +kernel) ?_
  refine gt_callS (As := [.int i, .int n, v]) (rest := []) hx hb hml hown hts hE (show decode cJ0_checkIndex_df160 5 = .ok (.invokestatic 1059, 3) by decide +kernel) ⟨gws_231, gws_232, gws_19, gws_233⟩ (np := 3) (by decide +kernel) rfl ⟨Nat.le_of_ble_eq_true rfl, Nat.le_of_ble_eq_true rfl⟩ ⟨rfl, rfl⟩ hl.1 (by decide) ⟨Nat.le_refl _, Nat.le_refl _⟩ hR hS (gt_check3 hv h0 h1) (fun H locs hR hS => ?_)
  refine lv_pop hx hb (show decode cJ0_checkIndex_df160 8 = .ok (.pop, 1) by decide +kernel) rfl ?_
  exact gt_vret hx hb hr hlk (by decide +kernel) hR hS
theorem gtv_okA : ∀ m, m < 6 → ∀ i, i < gTl.getD m 0 → (((gTb.getD m []).getD i 0 &&& 255).toUInt32 % 65536).toInt32 = (gTb.getD m []).getD i 0 ∧ ¬ Int32.ofNat i < 0 ∧ Int32.ofNat i < Int32.ofNat (gTl.getD m 0) ∧ (Int32.ofNat i).toNatClampNeg = i ∧ ¬ (Int32.ofNat i < 0 ∨ gTl.getD m 0 ≤ (Int32.ofNat i).toNatClampNeg) := by decide +kernel
theorem gtv_narA : ∀ m, m < 6 → ∀ i, i < gTl.getD m 0 → (narrow .char (.int ((gTb.getD m []).getD i 0)) == .int ((gTb.getD m []).getD i 0)) = true := by decide +kernel
theorem gtl_6 (hm : m < 6) : (gTlE E).getD m 0 = gTl.getD m 0 ∧ (gTbE E).getD m [] = gTb.getD m [] := by
  constructor
  · show (gTl ++ _).getD m 0 = _
    rw [List.getD_eq_getElem?_getD, List.getD_eq_getElem?_getD, List.getElem?_append_left (show m < 6 from hm)]
  · show (gTb ++ _).getD m [] = _
    rw [List.getD_eq_getElem?_getD, List.getD_eq_getElem?_getD, List.getElem?_append_left (show m < 6 from hm)]
theorem gtx_ch : ∀ x : Nat, x < 128 → (((Int32.ofNat x) &&& 255).toUInt32 % 65536).toInt32 = Int32.ofNat x ∧ (narrow .char (.int (Int32.ofNat x)) == .int (Int32.ofNat x)) = true := by decide +kernel
theorem gtx_at {E : gEn} (h : txOk E) {i : Nat} (hi : i < (gTx E).length) : ∃ x : Nat, x < 128 ∧ (gTx E).getD i 0 = Int32.ofNat x := by
  obtain ⟨h1, h2⟩ := h.2 ((gTx E).getD i 0) (by rw [List.getD_eq_getElem?_getD, List.getElem?_eq_getElem hi]; exact List.getElem_mem hi)
  refine ⟨((gTx E).getD i 0).toInt.toNat, by omega, ?_⟩
  have e : ((((gTx E).getD i 0).toInt.toNat : Nat) : Int) = ((gTx E).getD i 0).toInt := by omega
  rw [gt_nat, e]
  exact (Int32.ofInt_toInt _).symm
theorem gtv_i {n i : Nat} (hn : n ≤ 1000) (hi : i < n) : ¬ Int32.ofNat i < 0 ∧ Int32.ofNat i < Int32.ofNat n ∧ (Int32.ofNat i).toNatClampNeg = i ∧ ¬ (Int32.ofNat i < 0 ∨ n ≤ (Int32.ofNat i).toNatClampNeg) := by
  have e1 : (Int32.ofNat i).toInt = (i : Int) := Int32.toInt_ofNat_of_lt (by omega)
  have e2 : (Int32.ofNat n).toInt = (n : Int) := Int32.toInt_ofNat_of_lt (by omega)
  have e3 : (Int32.ofNat i).toNatClampNeg = i := by
    show (Int32.ofNat i).toInt.toNat = i
    rw [e1]
    exact Int.toNat_natCast i
  have e4 : ¬ Int32.ofNat i < 0 := by
    rw [Int32.lt_iff_toInt_lt, e1]
    show ¬ (i : Int) < 0
    omega
  refine ⟨e4, ?_, e3, ?_⟩
  · rw [Int32.lt_iff_toInt_lt, e1, e2]
    omega
  · rw [e3]
    exact fun z => z.elim e4 (by omega)
theorem gtl_e6 {E : gEn} : (gTlE E).getD 6 0 = (gTx E).length ∧ (gTbE E).getD 6 [] = gTx E := ⟨rfl, rfl⟩
theorem gtv_ok : ∀ m, gOkT E m → ∀ i, i < (gTlE E).getD m 0 → ((((gTbE E).getD m []).getD i 0 &&& 255).toUInt32 % 65536).toInt32 = ((gTbE E).getD m []).getD i 0 ∧ ¬ Int32.ofNat i < 0 ∧ Int32.ofNat i < Int32.ofNat ((gTlE E).getD m 0) ∧ (Int32.ofNat i).toNatClampNeg = i ∧ ¬ (Int32.ofNat i < 0 ∨ (gTlE E).getD m 0 ≤ (Int32.ofNat i).toNatClampNeg) := by
  intro m hm i hi
  by_cases h6 : m < 6
  · rw [(gtl_6 h6).1, (gtl_6 h6).2] at *
    exact gtv_okA m h6 i hi
  · have e : m = 6 := by have := hm.1; omega
    subst e
    rw [gtl_e6.1] at hi ⊢
    rw [gtl_e6.2]
    have ht := hm.2 rfl
    obtain ⟨x, hx, ex⟩ := gtx_at ht hi
    refine ⟨?_, gtv_i ht.1 hi⟩
    rw [ex]
    exact (gtx_ch x hx).1
theorem gtv_nar : ∀ m, gOkT E m → ∀ i, i < (gTlE E).getD m 0 → (narrow .char (.int (((gTbE E).getD m []).getD i 0)) == .int (((gTbE E).getD m []).getD i 0)) = true := by
  intro m hm i hi
  by_cases h6 : m < 6
  · rw [(gtl_6 h6).1] at hi
    rw [(gtl_6 h6).2]
    exact gtv_narA m h6 i hi
  · have e : m = 6 := by have := hm.1; omega
    subst e
    rw [gtl_e6.1] at hi
    rw [gtl_e6.2]
    obtain ⟨x, hx, ex⟩ := gtx_at (hm.2 rfl) hi
    rw [ex]
    exact (gtx_ch x hx).2
theorem gt_lcharAt (hm : gOkT E m) {i : Nat} (hi : i < (gTlE E).getD m 0) : gtM E yJ1_charAt_3b067 cJ1_charAt_3b067 2 (some .char) { frames := 3, cells := 0, slots := 0, locals := 63 } [.ref (gax E (2, m, 1)), .int (Int32.ofNat i)] (some (.int (((gTbE E).getD m []).getD i 0))) := by
  refine gtM_of (by decide) (Nat.le_of_ble_eq_true rfl) ?_
  intro p e s m' args below meth cc ad I J B hC H locs LS hR hS hl
  have hl : lv_has LS 2 [(0, .ref (gax E (2, m, 1))), (1, .int (Int32.ofNat i))] := hl
  obtain ⟨hx, hb, hr, hml, hown, hts, hlk, hE⟩ := hC
  obtain ⟨g1, g2, g3, g4, g5, g6, g5b, g6b, g7, g8, g10, g11, g12, g13, g14, g17, g15, g16⟩ := id hE
  have hV := g12.1 m hm.1
  obtain ⟨v1, v2, v3, v4, v5⟩ := gtv_ok m hm i hi
  refine lv_iload_n hx hb (show decode cJ1_charAt_3b067 0 = .ok (.iload_n 1, 1) by decide +kernel) rfl (lv_at hl 1 rfl) ?_
  refine lv_aload_n hx hb (show decode cJ1_charAt_3b067 1 = .ok (.aload_n 0, 1) by decide +kernel) rfl (lv_at hl 0 rfl) ?_
  refine va_tlen hx hb hV.2.2.2 hS rfl (show decode cJ1_charAt_3b067 2 = .ok (.arraylength, 1) by decide +kernel) ?_
  refine gt_callS (As := [.int (Int32.ofNat i), .int (Int32.ofNat ((gTlE E).getD m 0))]) (rest := []) hx hb hml hown hts hE (show decode cJ1_charAt_3b067 3 = .ok (.invokestatic 9, 3) by decide +kernel) ⟨gws_226, gws_227, gws_17, gws_228⟩ (np := 2) (by decide +kernel) rfl ⟨Nat.le_of_ble_eq_true rfl, Nat.le_of_ble_eq_true rfl⟩ ⟨rfl, rfl⟩ hl.1 (by decide) ⟨Nat.le_refl _, Nat.le_refl _⟩ hR hS (gt_check v2 v3) (fun H locs hR hS => ?_)
  refine lv_aload_n hx hb (show decode cJ1_charAt_3b067 6 = .ok (.aload_n 0, 1) by decide +kernel) rfl (lv_at hl 0 rfl) ?_
  refine lv_iload_n hx hb (show decode cJ1_charAt_3b067 7 = .ok (.iload_n 1, 1) by decide +kernel) rfl (lv_at hl 1 rfl) ?_
  refine va_tb (v := .int (((gTbE E).getD m []).getD i 0)) hx hb hV.2.2.2 hS v5 (by rw [v4]) (show decode cJ1_charAt_3b067 8 = .ok (.baload, 1) by decide +kernel) ?_
  refine lv_sipush hx hb (v := 255) (show decode cJ1_charAt_3b067 9 = .ok (.sipush 255, 3) by decide +kernel) rfl ?_
  refine lv_iand hx hb (show decode cJ1_charAt_3b067 12 = .ok (.iand, 1) by decide +kernel) ?_
  refine lv_i2c hx hb (show decode cJ1_charAt_3b067 13 = .ok (.i2c, 1) by decide +kernel) v1 ?_
  exact gt_zret hx hb hr hlk (eq_of_beq (gtv_nar m hm i hi)) (by decide +kernel) hR hS
variable {Q : gQt} {X : gXt} {I : gI} {J : gJ} {B : gB}
theorem g_slen (hm : gOkT E m) (k : Q (.inl (.int (Int32.ofNat ((gTlE E).getD m 0)))) I J B) : gC E 311 [.inr (2, m, 0)] I J B Q X := by
  refine gC_of (by decide) (Nat.le_of_ble_eq_true rfl) ?_
  show gG E 311 0 [(0, .inr (2, m, 0))] [] I J B 0 0 Q X
  intro hc hw p e s m' args below meth cc ad0 Bs hC hT H locs LS ad hS
  have hC0 := hC
  obtain ⟨hx, hb', hret, hml', hown, hbig, hlk, hE⟩ := hC
  have hb : cc.code = cJ0_length_8abf5 := hb'
  obtain ⟨g1, g2, g3, g4, g5, g6, g5b, g6b, g7, g8, g10, g11, g12, g13, g14, g17, g15, g16⟩ := id hE
  have hV := g12.1 m hm.1
  have ha : ad (2, m, 0) = gax E (2, m, 0) := hS.1.2.2.1 (2, m, 0) (Nat.le_refl 2)
  have hl : lv_has LS 1 [(0, .ref (ad (2, m, 0)))] := hS.2.2.1
  show W p (gl E) e (hrm 311) s m' args below meth cc H locs 0 0 _ (F0 m' 0 LS [])
  rw [ha] at hl
  refine lv_aload_n hx hb (show decode cJ0_length_8abf5 0 = .ok (.aload_n 0, 1) by decide +kernel) rfl (lv_at hl 0 rfl) ?_
  refine vk_getf hx hb hV.2.2.1 hS.2.1 hown (hbig _ gws_sv) (fun _ h => h) (show decode cJ0_length_8abf5 1 = .ok (.getfield 9, 3) by decide +kernel) ?_
  refine va_tlen hx hb hV.2.2.2 hS.2.1 rfl (show decode cJ0_length_8abf5 4 = .ok (.arraylength, 1) by decide +kernel) ?_
  refine lv_aload_n hx hb (show decode cJ0_length_8abf5 5 = .ok (.aload_n 0, 1) by decide +kernel) rfl (lv_at hl 0 rfl) ?_
  refine gt_callV (As := []) (rest := [.int (Int32.ofNat ((gTlE E).getD m 0))]) hx hb hml' hown hbig hE (show decode cJ0_length_8abf5 6 = .ok (.invokevirtual 335, 3) by decide +kernel) ⟨gws_209, gws_210, gws_211, gws_17, gws_212⟩ (np := 0) (by decide +kernel) rfl ⟨Nat.le_of_ble_eq_true rfl, Nat.le_of_ble_eq_true rfl⟩ ⟨rfl, rfl⟩ (vk_recv g12 hm.1 hS.2.1) hl.1 (Nat.le_of_ble_eq_true rfl) ⟨Nat.zero_le _, Nat.zero_le _⟩ hS.1 hS.2.1 (gt_coder hm) (fun H locs hR hS1 => ?_)
  refine lv_ishr hx hb (show decode cJ0_length_8abf5 9 = .ok (.ishr, 1) by decide +kernel) ?_
  have e0 : Int32.ofNat ((gTlE E).getD m 0) >>> ((0 : Int32) &&& 31) = Int32.ofNat ((gTlE E).getD m 0) := by
    have h31 : ((0 : Int32) &&& 31) = 0 := by decide
    rw [h31]
    exact Int32.shiftRight_zero
  rw [e0]
  exact (gp_ireturn (y := 311) (pc := 10) (ls := [(0, .inr (2, m, 0))]) (X := X) (c := 0) (w := 0) (show decode cJ0_length_8abf5 10 = .ok (.ireturn, 1) by decide +kernel) rfl k : gG E 311 10 [(0, .inr (2, m, 0))] [.inl (.int (Int32.ofNat ((gTlE E).getD m 0)))] I J B 0 0 Q X) hc hw p e s m' args below meth cc ad0 Bs hC0 hT H locs LS ad ⟨hR, hS1, hS.2.2.1, hS.2.2.2.1, hS.2.2.2.2.1, hS.2.2.2.2.2.1, fun v h => by cases h with | head => trivial | tail _ h => cases h⟩
theorem g_schr (hm : gOkT E m) {i : Nat} (hi : i < (gTlE E).getD m 0) (k : Q (.inl (.int (((gTbE E).getD m []).getD i 0))) I J B) : gC E 312 [.inr (2, m, 0), .inl (.int (Int32.ofNat i))] I J B Q X := by
  refine gC_of (by decide) (Nat.le_of_ble_eq_true rfl) ?_
  show gG E 312 0 [(0, .inr (2, m, 0)), (1, .inl (.int (Int32.ofNat i)))] [] I J B 0 0 Q X
  intro hc hw p e s m' args below meth cc ad0 Bs hC hT H locs LS ad hS
  have hC0 := hC
  obtain ⟨hx, hb', hret, hml', hown, hbig, hlk, hE⟩ := hC
  have hb : cc.code = cJ0_charAt_5068e := hb'
  obtain ⟨g1, g2, g3, g4, g5, g6, g5b, g6b, g7, g8, g10, g11, g12, g13, g14, g17, g15, g16⟩ := id hE
  have hV := g12.1 m hm.1
  have ha : ad (2, m, 0) = gax E (2, m, 0) := hS.1.2.2.1 (2, m, 0) (Nat.le_refl 2)
  have hl : lv_has LS 2 [(0, .ref (ad (2, m, 0))), (1, .int (Int32.ofNat i))] := hS.2.2.1
  show W p (gl E) e (hrm 312) s m' args below meth cc H locs 0 0 _ (F0 m' 0 LS [])
  rw [ha] at hl
  refine lv_aload_n hx hb (show decode cJ0_charAt_5068e 0 = .ok (.aload_n 0, 1) by decide +kernel) rfl (lv_at hl 0 rfl) ?_
  refine gt_callV (As := []) (rest := []) hx hb hml' hown hbig hE (show decode cJ0_charAt_5068e 1 = .ok (.invokevirtual 492, 3) by decide +kernel) ⟨gws_219, gws_220, gws_221, gws_17, gws_222⟩ (np := 0) (by decide +kernel) rfl ⟨Nat.le_of_ble_eq_true rfl, Nat.le_of_ble_eq_true rfl⟩ ⟨rfl, rfl⟩ (vk_recv g12 hm.1 hS.2.1) hl.1 (Nat.le_of_ble_eq_true rfl) ⟨Nat.zero_le _, Nat.zero_le _⟩ hS.1 hS.2.1 (gt_isLatin1 hm) (fun H locs hR hS1 => ?_)
  refine lv_if_eq hx hb (show decode cJ0_charAt_5068e 4 = .ok (.ifCond .eq 12, 3) by decide +kernel) (tgt := 16) rfl (fun z => absurd z (by decide)) (fun _ => ?_)
  refine lv_aload_n hx hb (show decode cJ0_charAt_5068e 7 = .ok (.aload_n 0, 1) by decide +kernel) rfl (lv_at hl 0 rfl) ?_
  refine vk_getf hx hb hV.2.2.1 hS1 hown (hbig _ gws_sv) (fun _ h => h) (show decode cJ0_charAt_5068e 8 = .ok (.getfield 9, 3) by decide +kernel) ?_
  refine lv_iload_n hx hb (show decode cJ0_charAt_5068e 11 = .ok (.iload_n 1, 1) by decide +kernel) rfl (lv_at hl 1 rfl) ?_
  refine gt_callS (As := [.ref (gax E (2, m, 1)), .int (Int32.ofNat i)]) (rest := []) hx hb hml' hown hbig hE (show decode cJ0_charAt_5068e 12 = .ok (.invokestatic 495, 3) by decide +kernel) ⟨gws_223, gws_224, gws_18, gws_225⟩ (np := 2) (by decide +kernel) rfl ⟨Nat.le_of_ble_eq_true rfl, Nat.le_of_ble_eq_true rfl⟩ ⟨rfl, rfl⟩ hl.1 (by decide) ⟨Nat.zero_le _, Nat.zero_le _⟩ hR hS1 (gt_lcharAt hm hi) (fun H locs hR hS1 => ?_)
  exact (gp_zreturn (y := 312) (pc := 15) (ls := [(0, .inr (2, m, 0)), (1, .inl (.int (Int32.ofNat i)))]) (X := X) (c := 0) (w := 0) (show decode cJ0_charAt_5068e 15 = .ok (.ireturn, 1) by decide +kernel) rfl (eq_of_beq (gtv_nar m hm i hi)) k : gG E 312 15 [(0, .inr (2, m, 0)), (1, .inl (.int (Int32.ofNat i)))] [.inl (.int (((gTbE E).getD m []).getD i 0))] I J B 0 0 Q X) hc hw p e s m' args below meth cc ad0 Bs hC0 hT H locs LS ad ⟨hR, hS1, hS.2.2.1, hS.2.2.2.1, hS.2.2.2.2.1, hS.2.2.2.2.2.1, fun v h => by cases h with | head => trivial | tail _ h => cases h⟩
end TX2
