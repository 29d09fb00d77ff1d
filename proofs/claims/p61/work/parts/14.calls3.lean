/-! ===== a static call of a nest mate's method, and of one with a table ===== -/
section GN
variable {p : Program} {l : Launch} {e : Env} {R : Room} {s : State} {m : MethodId} {args : Array Value} {below : List Frame} {meth : Method} {c : Code} {T : State} {locs : List Loc} {cells slots : Nat}
theorem gx_callSN (X : Stand p l e R s m args below meth c T locs cells slots) (hexec : p.tables.exec = Jvm.exec) {own host : String} {index : Nat} {y : MethodName} {bytes : ByteArray} {maxL : Nat} {ret : Option FieldType}
    (hown : s.vm.findClass own = some m.cls) (hlink : (Cond.methodLinkNest own index y host).before args s = true) (hstat : (Cond.static y).before args s = true) (hinit : (Cond.initialized y.cls).before args s = true)
    (hcode : (Cond.code y bytes maxL ret).before args s = true) (hy : y.cls ≠ "java/lang/invoke/MethodHandle" ∧ y.cls ≠ "java/lang/invoke/VarHandle")
    {W9 : Nat} {Pre : Pt → Array Value → Prop} {Post : Pt → Array Value → Option Value → Pt → Prop} {PostX : Pt → Array Value → Addr → Pt → Prop} (hK : vx_Back l R p e below s args y 3 W9 Pre Post PostX)
    {g : JFrame} (hg : g.method = m) (hsize : g.locals.size = c.maxLocals) {argsL rest : List Value} (hlen : ∀ sig, parseMethodDescriptor y.desc = some sig → argsL.length = sig.parameters.length)
    (hstack : g.stack = argsL.reverse ++ rest) (hW : 2 * g.monitorRoom + (rest.map fun v => v.category).sum ≤ W9) (hdg : decode c.code g.pc = .ok (.invokestatic index, 3))
    (hpre : ∀ vm₁, s.WarmedH vm₁ → Pre ⟨T.setVm vm₁, locs, cells, slots⟩ argsL.toArray) :
    (∃ (v : Option Value) (vm₁ : Vm) (B : Pt), s.WarmedH vm₁ ∧ Stand p l e R s m args below meth c B.U B.locs B.cells B.slots ∧ Post ⟨T.setVm vm₁, locs, cells, slots⟩ argsL.toArray v B ∧
      ∀ target, Steps p.tables e below (B.U.setTop { g with pc := g.pc + 3, stack := v.toList ++ rest }) target → Steps p.tables e below (T.setTop g) target) ∨
    (∃ (q : Addr) (vm₁ : Vm) (B : Pt), s.WarmedH vm₁ ∧ Stand p l e R s m args below meth c B.U B.locs B.cells B.slots ∧ PostX ⟨T.setVm vm₁, locs, cells, slots⟩ argsL.toArray q B ∧
      Steps p.tables e below (T.setTop g) ((B.U.setTop { g with stack := rest }).pushFrame (.throwing q))) := by
  obtain ⟨mk, hnamed⟩ := Cond.code_named hcode
  obtain ⟨methM, cM, hmethM, -, -, -, -, -, -, hsigM⟩ := Cond.code_spec hnamed hcode
  have hstatic : methM.isStatic = true := Cond.static_spec hnamed hmethM hstat
  obtain ⟨kP, hkP, -⟩ := className_of_methodNamed hnamed
  have hinitP : kP.init = .initialized := Cond.initialized_spec (findClass_of_methodNamed hnamed) hkP hinit
  obtain ⟨vm₁, X₁, hstep₁⟩ := X.invokestaticNest hexec hown hlink hnamed hmethM hstatic hkP hinitP hy (g := g) hg (argsL := argsL) (rest := rest) (hlen _ hsigM) hstack hdg
  rcases hK m meth c ⟨T.setVm vm₁, locs, cells, slots⟩ { g with stack := rest } (.invokestatic index) mk argsL.toArray X₁ hg hsize hdg hW (X₁.named hnamed) (hpre vm₁ X₁.warmed) with ⟨v, B, X', hpost, hsteps⟩ | ⟨q, B, X', hpost, hsteps⟩
  · exact Or.inl ⟨v, vm₁, B, X₁.warmed, X', hpost, fun target h => hstep₁ _ fun acts => by rw [doInvoke_state]; exact hsteps.trans h⟩
  · exact Or.inr ⟨q, vm₁, B, X₁.warmed, X', hpost, hstep₁ _ fun acts => by rw [doInvoke_state]; exact hsteps⟩
end GN
section GN2
variable {p : Program} {l : Launch} {e : Env} {R : Room} {s : State} {m : MethodId} {args : Array Value} {below : List Frame} {meth : Method} {c : Code} {H : Heap} {locs : List Loc} {cells slots : Nat}
variable {y : MethodName} {bytes cc : ByteArray} {maxL nL mc ms n index : Nat} {ret : Option FieldType} {ws : List Cond} {rm : Room} {Pc : Array Value → State → Prop} {Qc : Array Value → State → Outcome → State → Prop} {XC : String → State → State → Prop} {free : Addr → Prop} {Ts : List Cond} {own host : String} {As rest : List Value} {g : JFrame}
theorem gx_runSN (S : CallFix p m c cc nL s args Ts own) (hM : vx_Met l y ws rm Pc Qc XC mc ms free) (cw : va_CN R s args own index y host bytes maxL ret ws rm mc ms n ∧ (Cond.static y).before args s = true) (hp : PreS s H Pc As)
    (hg : g.method = m) (hn : As.length = n) (hsize : g.locals.size = nL) (hstack : g.stack = As.reverse ++ rest) (hW : 2 * g.monitorRoom + (rest.map fun v => v.category).sum ≤ 8) (hdg : decode cc g.pc = .ok (.invokestatic index, 3)) (hf : cells + mc ≤ R.cells ∧ slots + ms ≤ R.slots) :
    vx_Run p l e R s m args below meth c H locs cells slots mc ms g rest (Qc As.toArray) XC free := by
  obtain ⟨⟨⟨hrc, hrs, hfr, hlo, hws, hcw⟩, hcode, hini, hy, hlen, hl⟩, hstt⟩ := cw
  have hK : vx_Back l R p e below s args y 3 8 (PreOf R mc ms Pc) (PostOf Qc mc ms free) (vx_Post XC mc ms free) := vx_back (bytes := bytes) (maxL := maxL) (ret := ret) hM hp.1 hrc hrs hfr hlo hws hcw (fun a' U hW => word_at hW (Or.inl (by first | rfl | simp [Cond.onTables, Cond.keeps, Cond.steady])) hini)
  obtain ⟨hx, hb, hml, ho, -⟩ := S
  intro T hT X
  rcases gx_callSN X hx (bytes := bytes) (maxL := maxL) (ret := ret) ho hl hstt hini hcode hy hK hg (hsize.trans hml.symm) (argsL := As) (rest := rest) (fun sig h => hn.trans (hlen sig h)) hstack hW (by rw [hb]; exact hdg)
    (fun vm₁ hW₁ => ⟨hf.1, hf.2, hp.2 (T.setVm vm₁) hT hW₁⟩) with ⟨v, vm₁, ⟨U', l2, c2, s2⟩, hW₁, X', ⟨g', mk, t, L, e1, e2, hq, h1, hL, h2, h3⟩, st⟩ | ⟨q, vm₁, ⟨U', l2, c2, s2⟩, hW₁, X', ⟨g', mk, t, L, E, ce, e1, e2, hq, hce, hcv, hcl, h1, hL, h2, h3⟩, st⟩
  · dsimp only [Pt.U, Pt.locs, Pt.cells, Pt.slots] at X' e1 e2 h1 h2 h3 st
    subst h1; subst h2; subst h3
    exact Or.inl ⟨v, (T.setVm vm₁).calling g' mk As.toArray, t, U', L, hT, X', hL, e1, e2, hq, st⟩
  · dsimp only [Pt.U, Pt.locs, Pt.cells, Pt.slots] at X' e1 e2 h1 h2 h3 st hcl
    subst h1; subst h2; subst h3
    exact Or.inr ⟨q, (T.setVm vm₁).calling g' mk As.toArray, t, U', L, E, ce, hT, X', hL, e1, e2, hq, hce, hcv, vx_cls hW₁ hcl, st⟩
end GN2
section GH
variable {E : gEn} {y y2 pc : Nat} {ls : List (Nat × gV)} {st r : List gV} {I : gI} {J : gJ} {B : gB} {c w : Nat} {Q : gQt} {X : gXt}
/-- the words of a call of a nest mate's static one -/
def gCN (own : String) (n y2 np : Nat) : Prop := gCe y2 np ∧ hht y2 = [] ∧ Cond.code (hy y2) (hb y2) (hml y2) (hr y2) ∈ gBig ∧ (∃ host, Cond.methodLinkNest own n (hy y2) host ∈ gNst) ∧ Cond.static (hy y2) ∈ gBig ∧ Cond.initialized (hy y2).cls ∈ gBig
theorem gp_callSN {n np : Nat} {as : List gV} {Q2 : gQt} {X2 : gXt} (hd : decode (hb y) pc = .ok (.invokestatic n, 3)) (hl : gCN (hy y).cls n y2 np) (hm : gRm y y2) (hn : as.length = np)
    (hsm : gsum r ≤ 8) (hc2 : c + hmc y2 ≤ hmc y) (hw2 : w + hms y2 ≤ hms y) (hM : gC E y2 as I J B Q2 X2)
    (kk : ∀ v I2 J2 B2, Q2 v I2 J2 B2 → gG E y (pc + 3) ls (gpush y2 v r) I2 J2 B2 (c + hmc y2) (w + hms y2) Q X)
    (kx : ∀ k I2 J2 B2, k < 3 → X2 k I2 J2 B2 → gGx E y pc ls k I2 J2 B2 (c + hmc y2) (w + hms y2) Q X) : gG E y pc ls (as.reverse ++ r) I J B c w Q X := by
  intro hc hw p e s m args below meth cc ad0 Bs hC hT H locs LS ad hS
  obtain ⟨ux, ub, ur, uml, hown, hts, ulk, hE⟩ := id hC
  obtain ⟨⟨e1, e2, e3⟩, l0, l1, ⟨host, l2⟩, l3, l5⟩ := hl
  have hva : ∀ v ∈ as, gVv B v := fun v h => hS.vs v (by simp [h])
  have hvr : ∀ v ∈ r, gVv B v := fun v h => hS.vs v (by simp [h])
  have cw := va_cnB (R := hrm y) (s := s) (args := args) (own := (hy y).cls) (index := n) (y := hy y2) (bytes := hb y2) (maxL := hml y2) (ret := hr y2) (mc := hmc y2) (ms := hms y2) (rm := hrm y2) np hts (gGood_hws l0 l1) (hws_code l0) rfl rfl (hE.2.1 _ l2) (hts _ l5) ⟨e1, e2, e3⟩ hm
  have hrun := gx_runSN (Ts := gBig) (g := F0 m pc LS ((as.map (gcv ad)).reverse ++ r.map (gcv ad))) (As := as.map (gcv ad)) (rest := r.map (gcv ad)) (H := H) (locs := locs) (cells := c) (slots := w) (e := e) (below := below) (meth := meth) ⟨ux, ub, uml, hown, hts⟩ (hM hva ad) ⟨cw, hts _ l3⟩
    ⟨gPc_blind, fun U hU hW => ⟨rfl, gPc_at hE hS.2.1 hS.1 hU hW⟩⟩ rfl (by rw [List.length_map]; exact hn) hS.2.2.1.1 rfl (lv_room (by rw [gsum_cv]; exact hsm)) hd ⟨hc2, hw2⟩
  have key := g_run (y2 := y2) hc2 hw2 hC hT hS hvr hrun kk kx
  rw [List.map_append, List.map_reverse]
  exact key
/-- the words of a call of a static one with a table -/
def gCX (own : String) (n y2 np : Nat) : Prop := gCe y2 np ∧ hht y2 ≠ [] ∧ hcw y2 ∈ gBig ∧ Cond.methodLink own n (hy y2) ∈ gBig ∧ Cond.static (hy y2) ∈ gBig ∧ Cond.initialized (hy y2).cls ∈ gBig
theorem gp_callSX {n np : Nat} {as : List gV} {Q2 : gQt} {X2 : gXt} (hd : decode (hb y) pc = .ok (.invokestatic n, 3)) (hl : gCX (hy y).cls n y2 np) (hm : gRm y y2) (hn : as.length = np)
    (hsm : gsum r ≤ 8) (hc2 : c + hmc y2 ≤ hmc y) (hw2 : w + hms y2 ≤ hms y) (hM : gC E y2 as I J B Q2 X2)
    (kk : ∀ v I2 J2 B2, Q2 v I2 J2 B2 → gG E y (pc + 3) ls (gpush y2 v r) I2 J2 B2 (c + hmc y2) (w + hms y2) Q X)
    (kx : ∀ k I2 J2 B2, k < 3 → X2 k I2 J2 B2 → gGx E y pc ls k I2 J2 B2 (c + hmc y2) (w + hms y2) Q X) : gG E y pc ls (as.reverse ++ r) I J B c w Q X := by
  intro hc hw p e s m args below meth cc ad0 Bs hC hT H locs LS ad hS
  obtain ⟨ux, ub, ur, uml, hown, hts, ulk, hE⟩ := id hC
  obtain ⟨⟨e1, e2, e3⟩, l0, l1, l2, l3, l5⟩ := hl
  have hva : ∀ v ∈ as, gVv B v := fun v h => hS.vs v (by simp [h])
  have hvr : ∀ v ∈ r, gVv B v := fun v h => hS.vs v (by simp [h])
  have hcw9 : hcw y2 = Cond.codeWith (hy y2) (hb y2) (hml y2) (hr y2) (hht y2) := by
    unfold hcw
    cases h : hht y2 with
    | nil => exact absurd h l0
    | cons a b => rfl
  have hgood : GoodIn gBig (va_wsS (hy y).cls n (hy y2) (hws y2)) := by
    intro u hu
    unfold va_wsS at hu
    rcases List.mem_append.mp hu with hu | hu
    · simp only [List.mem_cons, List.not_mem_nil, or_false] at hu
      rcases hu with rfl | rfl | rfl
      · exact ⟨l2, gBig_good l2⟩
      · exact ⟨l3, gBig_good l3⟩
      · exact ⟨l5, gBig_good l5⟩
    · rcases List.mem_cons.mp hu with rfl | hu
      · exact ⟨l1, gBig_good l1⟩
      · exact ⟨hu, gBig_good hu⟩
  have cw := vx_cwSW (R := hrm y) (s := s) (args := args) (own := (hy y).cls) (index := n) (y := hy y2) (bytes := hb y2) (maxL := hml y2) (ret := hr y2) (mc := hmc y2) (ms := hms y2) (rm := hrm y2) (hh := hht y2) np hts hgood (by rw [← hcw9]; rfl) rfl rfl ⟨e1, e2, e3⟩ hm
  have hrun := vx_runSX (Ts := gBig) (g := F0 m pc LS ((as.map (gcv ad)).reverse ++ r.map (gcv ad))) (As := as.map (gcv ad)) (rest := r.map (gcv ad)) (H := H) (locs := locs) (cells := c) (slots := w) (e := e) (below := below) (meth := meth) ⟨ux, ub, uml, hown, hts⟩ (hM hva ad) cw
    ⟨gPc_blind, fun U hU hW => ⟨rfl, gPc_at hE hS.2.1 hS.1 hU hW⟩⟩ rfl (by rw [List.length_map]; exact hn) hS.2.2.1.1 rfl (lv_room (by rw [gsum_cv]; exact hsm)) hd ⟨hc2, hw2⟩
  have key := g_run (y2 := y2) hc2 hw2 hC hT hS hvr hrun kk kx
  rw [List.map_append, List.map_reverse]
  exact key
/-- not caught: it goes on -/
theorem gx_out {k : Nat} (ht : hht y = []) (hk : k < 3) (hq : X k I J B) : gGx E y pc ls k I J B c w Q X := by
  intro hc hw p e s m args below meth cc ad0 Bs hC hT H locs LS ad hS q ce rest h1 h2 h3
  refine vx_out (E := gxn k) ?_ hC.2.2.2.2.2.2.1 h1 h2 h3 ?_ (gfree hS.2.1) hc hw
  · intro x hx
    rw [hT, ht] at hx
    cases hx
  · intro t ht _
    exact ⟨⟨k, I, J, B, ad, ⟨hk, rfl⟩, hq, by rw [ht]; exact hS.1, hS.2.2.2.1, hS.2.2.2.2.1⟩, hS.2.1.F ht⟩
/-- the rows of a method's table name the three -/
def gHok (own : String) : List (Nat × Nat × Nat × Nat) → gH → Prop
  | [], [] => True
  | (a, b, h, i) :: t, (a2, b2, h2, j) :: t2 => (a2 = a ∧ b2 = b ∧ h2 = h ∧ j < 3 ∧ i ≠ 0 ∧ Cond.classLink own i (gxn j) ∈ gBig) ∧ gHok own t t2
  | _, _ => False
theorem gcov {a b h i pc : Nat} : covers (⟨a, b, h, i⟩ : ExceptionTableEntry) pc = (Nat.ble a pc && Nat.blt pc b) := by
  unfold covers
  rw [Bool.eq_iff_iff]
  simp [Nat.blt, Nat.ble_eq, Nat.succ_le_iff]
/-- what goes by a row that names another -/
def gBy (s : State) (args : Array Value) (own : String) (pc k : Nat) (z : ExceptionTableEntry) : Prop := covers z pc = false ∨ (z.catchType ≠ 0 ∧ ∃ nm : String, (Cond.classLink own z.catchType nm).before args s = true ∧ va_Nc (gxn k) nm s)
theorem gh_find {s : State} {args : Array Value} {own : String} {k : Nat} (hts : ∀ w ∈ gBig, w.before args s = true) (hE : gEv E s s.heap) (hk : k < 3) : ∀ (hh : List (Nat × Nat × Nat × Nat)) (hs : gH), gHok own hh hs →
    (∀ h, ghf hs pc k = some h → ∃ (pre : List ExceptionTableEntry) (x : ExceptionTableEntry) (suf : List ExceptionTableEntry), tableOf hh = pre ++ x :: suf ∧ (∀ z ∈ pre, gBy s args own pc k z) ∧ covers x pc = true ∧ x.catchType ≠ 0 ∧ x.handlerPc = h ∧ (Cond.classLink own x.catchType (gxn k)).before args s = true) ∧
    (ghf hs pc k = none → ∀ z ∈ tableOf hh, gBy s args own pc k z)
  | [], [], _ => ⟨fun h e => (by cases e), fun _ z hz => (by cases hz)⟩
  | (a, b, h, i) :: t, (a2, b2, h2, j) :: t2, ⟨⟨e1, e2, e3, hj, hi, hw⟩, ht⟩ => by
    subst e1; subst e2; subst e3
    obtain ⟨g1, g2⟩ := gh_find hts hE hk t t2 ht
    have hby : ¬ (Nat.ble a2 pc && Nat.blt pc b2 && Nat.beq j k) = true → gBy s args own pc k ⟨a2, b2, h2, i⟩ := by
      intro hn
      by_cases hc : (Nat.ble a2 pc && Nat.blt pc b2) = true
      · have hjk : j ≠ k := by
          intro e
          subst e
          apply hn
          rw [hc, Bool.true_and]
          exact Nat.beq_refl j
        exact Or.inr ⟨hi, gxn j, hts _ hw, hE.2.2.2.2.2.2.2.2.2.2.2.2.2.2.2.1 k j hk hj (fun e => hjk e.symm)⟩
      · refine Or.inl ?_
        rw [gcov]
        revert hc
        cases (Nat.ble a2 pc && Nat.blt pc b2) <;> simp
    constructor
    · intro h0 hf
      rw [ghf] at hf
      split at hf
      · rename_i hc
        cases hf
        have hc2 := Bool.and_eq_true_iff.mp hc
        have hjk : j = k := Nat.eq_of_beq_eq_true hc2.2
        subst hjk
        exact ⟨[], ⟨a2, b2, h2, i⟩, tableOf t, rfl, fun z hz => (by cases hz), (by rw [gcov]; exact hc2.1), hi, rfl, hts _ hw⟩
      · rename_i hc
        obtain ⟨pre, x, suf, q1, q2, q3⟩ := g1 h0 hf
        refine ⟨⟨a2, b2, h2, i⟩ :: pre, x, suf, ?_, ?_, q3⟩
        · show ⟨a2, b2, h2, i⟩ :: tableOf t = _
          rw [q1]
          rfl
        · intro z hz
          rcases List.mem_cons.mp hz with rfl | hz
          · exact hby (by rw [hc]; decide)
          · exact q2 z hz
    · intro hf z hz
      rw [ghf] at hf
      split at hf
      · cases hf
      · rename_i hc
        have hz : z ∈ (⟨a2, b2, h2, i⟩ : ExceptionTableEntry) :: tableOf t := hz
        rcases List.mem_cons.mp hz with rfl | hz
        · exact hby (by rw [hc]; decide)
        · exact g2 hf z hz
theorem gx_catch {k h a : Nat} {hs : gH} (hok : gHok (hy y).cls (hht y) hs) (hk : k < 3) (hf : ghf hs pc k = some h) {e0 : Nat} {ins : Instr} (hd : decode (hb y) h = .ok (ins, e0)) (hi : (∃ j : Fin 4, ins = .astore_n j ∧ (j : Nat) = a ∧ e0 = 1) ∨ (ins = .astore a ∧ e0 = 2)) (hn : a < hml y)
    (kk : gG E y (h + e0) (ls.filter (fun q => !(q.1 == a) && !(q.1 + 1 == a && gcat q.2 == 2))) [] I J B c w Q X) : gGx E y pc ls k I J B c w Q X := by
  intro hc hw p e s m args below meth cc ad0 Bs hC hT H locs LS ad hS q ce rest h1 h2 h3
  obtain ⟨ux, ub, ur, uml, hown, hts, ulk, hE⟩ := id hC
  obtain ⟨pre, x, suf, q1, q2, q3, q4, q5, q6⟩ := (gh_find (pc := pc) hts hE hk (hht y) hs hok).1 h hf
  have hcast : (Cond.castable (gxn k) (gxn k)).before args s = true := by
    rcases (show k = 0 ∨ k = 1 ∨ k = 2 by omega) with rfl | rfl | rfl
    · exact va_Nw.use rfl (hE.2.1 (.castable "java/lang/IllegalStateException" "java/lang/IllegalStateException") (by simp [gNst]))
    · exact va_Nw.use rfl (hE.2.1 (.castable "java/lang/IndexOutOfBoundsException" "java/lang/IndexOutOfBoundsException") (by simp [gNst]))
    · exact va_Nw.use rfl (hE.2.1 (.castable "java/lang/IllegalArgumentException" "java/lang/IllegalArgumentException") (by simp [gNst]))
  refine vx_catch hown pre x suf (hT.trans q1) q2 q3 q4 q6 hcast h1 h2 h3 ?_
  rw [q5]
  have hfin : ∀ LS2 : Array Slot, lv_has LS2 (hml y) ((a, Value.ref q) :: (ls.map (gcp ad)).filter (fun q => !(q.1 == a) && !(q.1 + 1 == a && q.2.category == 2))) → lv_has LS2 (hml y) ((ls.filter (fun q => !(q.1 == a) && !(q.1 + 1 == a && gcat q.2 == 2))).map (gcp ad)) := by
    intro LS2 hl
    refine ⟨hl.1, hl.2.1, fun z hz => hl.2.2 z (List.mem_cons_of_mem _ ?_)⟩
    rw [List.filter_map]
    obtain ⟨u, hu, rfl⟩ := List.mem_map.mp hz
    refine List.mem_map.mpr ⟨u, ?_, rfl⟩
    obtain ⟨u1, u2⟩ := List.mem_filter.mp hu
    refine List.mem_filter.mpr ⟨u1, ?_⟩
    simp only [Function.comp, gcp, gcat_cv]
    exact u2
  have hvl : ∀ z ∈ ls.filter (fun q => !(q.1 == a) && !(q.1 + 1 == a && gcat q.2 == 2)), gVv B z.2 := fun z hz => hS.2.2.2.2.2.1 z (List.mem_filter.mp hz).1
  rcases hi with ⟨j, rfl, hj, rfl⟩ | ⟨rfl, rfl⟩
  · exact lv_astore_n ux ub hd hj hS.2.2.1 hn rfl (fun LS2 hl => kk hc hw p e s m args below meth cc ad0 Bs hC hT H locs LS2 ad (hS.sv (hfin LS2 hl) hvl (fun v h => by cases h)))
  · exact lv_astore ux ub hd hS.2.2.1 hn rfl (fun LS2 hl => kk hc hw p e s m args below meth cc ad0 Bs hC hT H locs LS2 ad (hS.sv (hfin LS2 hl) hvl (fun v h => by cases h)))
theorem gx_pass {k : Nat} {hs : gH} (hok : gHok (hy y).cls (hht y) hs) (hk : k < 3) (hf : ghf hs pc k = none) (hq : X k I J B) : gGx E y pc ls k I J B c w Q X := by
  intro hc hw p e s m args below meth cc ad0 Bs hC hT H locs LS ad hS q ce rest h1 h2 h3
  obtain ⟨ux, ub, ur, uml, hown, hts, ulk, hE⟩ := id hC
  have hp := (gh_find (pc := pc) hts hE hk (hht y) hs hok).2 hf
  refine vx_outP hown ulk (fun z hz => hp z (by rw [← hT]; exact hz)) h1 h2 h3 ?_ (gfree hS.2.1) hc hw
  intro t ht _
  exact ⟨⟨k, I, J, B, ad, ⟨hk, rfl⟩, hq, by rw [ht]; exact hS.1, hS.2.2.2.1, hS.2.2.2.2.1⟩, hS.2.1.F ht⟩
end GH
