/-! ===== the law's frame (by wip/p61/p99q.py) ===== -/
theorem kw_176 : (Cond.methodLink "ToeplitzLabLaw" 190 yL_thrown) ∈ gBig := gBig_of (gpc4 (List.mem_of_getElem? (i := 69) rfl)) rfl
theorem kw_177 : (Cond.static yL_thrown) ∈ gBig := gBig_of (gpc4 (List.mem_of_getElem? (i := 70) rfl)) rfl
theorem kw_178 : (Cond.initialized "ToeplitzLabLaw") ∈ gBig := gBig_of (gpc1 (List.mem_of_getElem? (i := 0) rfl)) rfl
theorem kw_179 : (Cond.code yX7_size cX7_size 1 (some .int)) ∈ gBig := gBig_of (gpc2 (List.mem_of_getElem? (i := 56) rfl)) rfl
theorem kw_180 : (Cond.methodLink "ToeplitzLabLaw" 151 yX7_size) ∈ gBig := gBig_of (gpc2 (List.mem_of_getElem? (i := 53) rfl)) rfl
theorem kw_181 : (Cond.instanceMethod yX7_size) ∈ gBig := gBig_of (gpc2 (List.mem_of_getElem? (i := 54) rfl)) rfl
theorem kw_182 : (Cond.selects "ToeplitzLab" yX7_size yX7_size) ∈ gBig := gBig_of (gpc2 (List.mem_of_getElem? (i := 55) rfl)) rfl
theorem kw_183 : (Cond.initialized "ToeplitzLab") ∈ gBig := gBig_of (gpc1 (List.mem_of_getElem? (i := 15) rfl)) rfl
theorem kw_184 : (Cond.code yX7_prime cX7_prime 1 (some .int)) ∈ gBig := gBig_of (gpc2 (List.mem_of_getElem? (i := 60) rfl)) rfl
theorem kw_185 : (Cond.methodLink "ToeplitzLabLaw" 159 yX7_prime) ∈ gBig := gBig_of (gpc2 (List.mem_of_getElem? (i := 57) rfl)) rfl
theorem kw_186 : (Cond.instanceMethod yX7_prime) ∈ gBig := gBig_of (gpc2 (List.mem_of_getElem? (i := 58) rfl)) rfl
theorem kw_187 : (Cond.selects "ToeplitzLab" yX7_prime yX7_prime) ∈ gBig := gBig_of (gpc2 (List.mem_of_getElem? (i := 59) rfl)) rfl
theorem kw_188 : (Cond.code yX7_entries cX7_entries 1 (some .int)) ∈ gBig := gBig_of (gpc2 (List.mem_of_getElem? (i := 64) rfl)) rfl
theorem kw_189 : (Cond.methodLink "ToeplitzLabLaw" 262 yX7_entries) ∈ gBig := gBig_of (gpc2 (List.mem_of_getElem? (i := 61) rfl)) rfl
theorem kw_190 : (Cond.instanceMethod yX7_entries) ∈ gBig := gBig_of (gpc2 (List.mem_of_getElem? (i := 62) rfl)) rfl
theorem kw_191 : (Cond.selects "ToeplitzLab" yX7_entries yX7_entries) ∈ gBig := gBig_of (gpc2 (List.mem_of_getElem? (i := 63) rfl)) rfl
theorem kw_192 : (Cond.code yX7_undoable cX7_undoable 1 (some .int)) ∈ gBig := gBig_of (gpc2 (List.mem_of_getElem? (i := 68) rfl)) rfl
theorem kw_193 : (Cond.methodLink "ToeplitzLabLaw" 265 yX7_undoable) ∈ gBig := gBig_of (gpc2 (List.mem_of_getElem? (i := 65) rfl)) rfl
theorem kw_194 : (Cond.instanceMethod yX7_undoable) ∈ gBig := gBig_of (gpc2 (List.mem_of_getElem? (i := 66) rfl)) rfl
theorem kw_195 : (Cond.selects "ToeplitzLab" yX7_undoable yX7_undoable) ∈ gBig := gBig_of (gpc2 (List.mem_of_getElem? (i := 67) rfl)) rfl
section HH
variable {E0 E1 : gEn} {p : Program} {e : Env} {R : Room} {s : State} {mI : MethodId} {args : Array Value} {below : List Frame} {meth : Method} {cc : Code} {H : Heap} {locs : List Loc} {c w pc : Nat} {LS : Array Slot} {Qq : State → Prop} {I : gI} {J : gJ} {B : gB} {ad : gR → Nat}
/-- behind a run of a machine's method, in a frame of which only its own state is known -/
theorem h_run {y2 : Nat} {Q2 : gQt} {a2 : Array Value} {st0 rest : List Value} (hS : va_S (gA E0) s.heap H locs) (hsub : ∀ q, gA E1 q → gA E0 q)
    (hrun : vx_Run p (gl E1) e R s mI args below meth cc H locs c w (hmc y2) (hms y2) (F0 mI pc LS st0) rest (gQc E1 y2 ad B Q2 a2) (gXc E1 ad B (fun _ _ _ _ => False)) (gA E1))
    (kk : ∀ (v : gV) (I2 : gI) (J2 : gJ) (B2 : gB) (ad2 : gR → Nat) (H1 : Heap) (locs1 : List Loc), Q2 v I2 J2 B2 → gRep E1 ad2 I2 J2 B2 H1 → gExt ad B ad2 → gLe B B2 → gVv B2 v → H.size ≤ H1.size → (∀ q : Nat, q < H.size → ¬ gA E1 q → H1[q]? = H[q]?) → va_S (gA E0) s.heap H1 locs1 →
      W p (gl E1) e R s mI args below meth cc H1 locs1 (c + hmc y2) (w + hms y2) Qq (F0 mI (pc + 3) LS ((gout y2 ad2 v).toList ++ rest))) :
    W p (gl E1) e R s mI args below meth cc H locs c w Qq (F0 mI pc LS st0) := by
  intro T hTT Xs
  rcases hrun T hTT Xs with ⟨v, st₀, t, T', L, h0, X', hL, e1, e2, ⟨⟨v0, I2, J2, B2, ad2, hv, hq, hR, hx, hle, hvv⟩, hF⟩, stp⟩ | ⟨q, st₀, t, T', L, En, ce, h0, X', hL, e1, e2, ⟨⟨k, I2, J2, B2, ad2, ⟨hk, hkE⟩, hq, hR, hx, hle⟩, hF⟩, hce, hcv, hcl, stp⟩
  · cases hv
    obtain ⟨k1, k2, k3⟩ := vx_keep h0 e1 hS (fun q _ h => hsub q h) hsub hL hF
    obtain ⟨t2, a1, b1⟩ := kk v0 I2 J2 B2 ad2 T'.heap (locs ++ L) hq (by rw [e1]; exact hR) hx hle hvv k1 k2 k3 T' rfl X'
    exact ⟨t2, stp t2 a1, b1⟩
  · exact absurd hq id
/-- the frame of the law, and what is known of the machine in it -/
def hC (E1 : gEn) (p : Program) (s : State) (mI : MethodId) (args : Array Value) (cc : Code) : Prop :=
  p.tables.exec = Jvm.exec ∧ cc.code = cL_law ∧ cc.maxLocals = 5 ∧ s.vm.findClass "ToeplitzLabLaw" = some mI.cls ∧ (∀ w ∈ gBig, w.before args s = true)
theorem h_callS {n y2 np : Nat} {as : List gV} {Q2 : gQt} {rest : List Value} (hc0 : hC E1 p s mI args cc) (hd : decode cL_law pc = .ok (.invokestatic n, 3)) (hl : gCX "ToeplitzLabLaw" n y2 np) (hm : hfr y2 + 1 ≤ R.frames ∧ 8 + (hml y2 + 11) + hlo y2 ≤ R.locals) (hn : as.length = np)
    (hsm : (rest.map fun v => v.category).sum ≤ 8) (hc2 : c + hmc y2 ≤ R.cells) (hw2 : w + hms y2 ≤ R.slots) (hE : gEv E1 s H) (hR : gRep E1 ad I J B H) (hv : ∀ v ∈ as, gVv B v) (hS : va_S (gA E0) s.heap H locs) (hsub : ∀ q, gA E1 q → gA E0 q) (hsz : LS.size = 5) (hM : gC E1 y2 as I J B Q2 (fun _ _ _ _ => False))
    (kk : ∀ (v : gV) (I2 : gI) (J2 : gJ) (B2 : gB) (ad2 : gR → Nat) (H1 : Heap) (locs1 : List Loc), Q2 v I2 J2 B2 → gRep E1 ad2 I2 J2 B2 H1 → gExt ad B ad2 → gLe B B2 → gVv B2 v → H.size ≤ H1.size → (∀ q : Nat, q < H.size → ¬ gA E1 q → H1[q]? = H[q]?) → va_S (gA E0) s.heap H1 locs1 →
      W p (gl E1) e R s mI args below meth cc H1 locs1 (c + hmc y2) (w + hms y2) Qq (F0 mI (pc + 3) LS ((gout y2 ad2 v).toList ++ rest))) :
    W p (gl E1) e R s mI args below meth cc H locs c w Qq (F0 mI pc LS ((as.map (gcv ad)).reverse ++ rest)) := by
  obtain ⟨ux, ub, uml, hown, hts⟩ := hc0
  obtain ⟨⟨e1, e2, e3⟩, l0, l1, l2, l3, l5⟩ := hl
  have hgood : GoodIn gBig (va_wsS "ToeplitzLabLaw" n (hy y2) (hws y2)) := by
    intro u hu
    unfold va_wsS at hu
    rcases List.mem_append.mp hu with hu | hu
    · simp only [List.mem_cons, List.not_mem_nil, or_false] at hu
      rcases hu with rfl | rfl | rfl
      · exact ⟨l2, gBig_good l2⟩
      · exact ⟨l3, gBig_good l3⟩
      · exact ⟨l5, gBig_good l5⟩
    · rcases List.mem_cons.mp hu with rfl | hu
      · exact ⟨l1, gBig_good l1⟩
      · exact ⟨hu, gBig_good hu⟩
  have hcw9 : hcw y2 = Cond.codeWith (hy y2) (hb y2) (hml y2) (hr y2) (hht y2) := by
    unfold hcw
    cases h : hht y2 with
    | nil => exact absurd h l0
    | cons a b => rfl
  have cw := vx_cwSW (R := R) (s := s) (args := args) (own := "ToeplitzLabLaw") (index := n) (y := hy y2) (bytes := hb y2) (maxL := hml y2) (ret := hr y2) (mc := hmc y2) (ms := hms y2) (rm := hrm y2) (hh := hht y2) np hts hgood (by rw [← hcw9]; rfl) rfl rfl ⟨e1, e2, e3⟩ hm
  have hrun := vx_runSX (Ts := gBig) (g := F0 mI pc LS ((as.map (gcv ad)).reverse ++ rest)) (As := as.map (gcv ad)) (rest := rest) (H := H) (locs := locs) (cells := c) (slots := w) (e := e) (below := below) (meth := meth) ⟨ux, ub, uml, hown, hts⟩ (hM hv ad) cw
    ⟨gPc_blind, fun U hU hW => ⟨rfl, by show gEv E1 U U.heap ∧ gRep E1 ad I J B U.heap; rw [hU]; exact ⟨hE.to hW (Nat.le_refl _) (fun _ _ _ => rfl), hR⟩⟩⟩ rfl (by rw [List.length_map]; exact hn) hsz rfl (lv_room hsm) hd ⟨hc2, hw2⟩
  exact h_run hS hsub hrun kk
theorem h_callV {n y2 np : Nat} {q : gR} {as : List gV} {ci : Nat} {fl : List (Nat × Nat)} {z : vw_C} {Q2 : gQt} {rest : List Value} (hc0 : hC E1 p s mI args cc) (hd : decode cL_law pc = .ok (.invokevirtual n, 3)) (hl : gCV "ToeplitzLabLaw" n y2 np) (hm : hfr y2 + 1 ≤ R.frames ∧ 8 + (hml y2 + 11) + hlo y2 ≤ R.locals) (hn : as.length = np) (ho : gobj q.1 = some (ci, fl)) (hz : vwCl[ci]? = some z) (hz1 : z.1 = (hy y2).cls)
    (hsm : (rest.map fun v => v.category).sum ≤ 8) (hc2 : c + hmc y2 ≤ R.cells) (hw2 : w + hms y2 ≤ R.slots) (hE : gEv E1 s H) (hR : gRep E1 ad I J B H) (hv : ∀ v ∈ (.inr q :: as : List gV), gVv B v) (hS : va_S (gA E0) s.heap H locs) (hsub : ∀ q, gA E1 q → gA E0 q) (hsz : LS.size = 5) (hM : gC E1 y2 (.inr q :: as) I J B Q2 (fun _ _ _ _ => False))
    (kk : ∀ (v : gV) (I2 : gI) (J2 : gJ) (B2 : gB) (ad2 : gR → Nat) (H1 : Heap) (locs1 : List Loc), Q2 v I2 J2 B2 → gRep E1 ad2 I2 J2 B2 H1 → gExt ad B ad2 → gLe B B2 → gVv B2 v → H.size ≤ H1.size → (∀ q : Nat, q < H.size → ¬ gA E1 q → H1[q]? = H[q]?) → va_S (gA E0) s.heap H1 locs1 →
      W p (gl E1) e R s mI args below meth cc H1 locs1 (c + hmc y2) (w + hms y2) Qq (F0 mI (pc + 3) LS ((gout y2 ad2 v).toList ++ rest))) :
    W p (gl E1) e R s mI args below meth cc H locs c w Qq (F0 mI pc LS ((as.map (gcv ad)).reverse ++ .ref (ad q) :: rest)) := by
  obtain ⟨ux, ub, uml, hown, hts⟩ := hc0
  obtain ⟨⟨e1, e2, e3⟩, l0, l1, l2, l3, l4, l5⟩ := hl
  have hvq : gVv B (.inr q) := hv _ List.mem_cons_self
  have hq : q ∈ gids B := gV_ids hvq (gobj_k3 ho)
  obtain ⟨q0, -, hq0⟩ := gws_get (E := E1) (ad := ad) (I := I) (J := J) hq
  rw [genc_obj ho] at hq0
  have hEs := hE.1
  have hrecv := va_recv hEs hR.1 hz hq0
  rw [hz1] at hrecv
  have hgood : GoodIn gBig (wsV "ToeplitzLabLaw" n (hy y2).cls (hy y2) (hws y2)) := by
    intro u hu
    unfold wsV at hu
    rcases List.mem_append.mp hu with hu | hu
    · simp only [List.mem_cons, List.not_mem_nil, or_false] at hu
      rcases hu with rfl | rfl | rfl | rfl
      · exact ⟨l2, gBig_good l2⟩
      · exact ⟨l3, gBig_good l3⟩
      · exact ⟨l4, gBig_good l4⟩
      · exact ⟨l5, gBig_good l5⟩
    · exact gGood_hws l0 l1 u hu
  have cw : CallW R s args "ToeplitzLabLaw" (hy y2).cls n (hy y2) (hb y2) (hml y2) (hr y2) (hws y2) (hrm y2) (hmc y2) (hms y2) np := cwV np hts hgood (hws_code l0) rfl rfl ⟨rfl, e1, e2, e3⟩ hm
  have hrun := vx_runV (Ts := gBig) (g := F0 mI pc LS ((as.map (gcv ad)).reverse ++ .ref (ad q) :: rest)) (As := as.map (gcv ad)) (rest := rest) (b := ad q) (H := H) (locs := locs) (cells := c) (slots := w) (e := e) (below := below) (meth := meth) ⟨ux, ub, uml, hown, hts⟩ (hM hv ad) cw
    ⟨gPc_blind, hrecv, fun U hU hW => ⟨rfl, by show gEv E1 U U.heap ∧ gRep E1 ad I J B U.heap; rw [hU]; exact ⟨hE.to hW (Nat.le_refl _) (fun _ _ _ => rfl), hR⟩⟩⟩ rfl (by rw [List.length_map]; exact hn) hsz rfl (lv_room hsm) hd ⟨hc2, hw2⟩
  exact h_run hS hsub hrun kk

theorem h_cs : gCX "ToeplitzLabLaw" 190 151 5 := ⟨by unfold gCe; decide +kernel, by decide +kernel, gYx_ok 151 (by decide), kw_176, kw_177, kw_178⟩
theorem h_cv_size : gCV "ToeplitzLabLaw" 151 57 0 := ⟨by unfold gCe; decide +kernel, rfl, kw_179, kw_180, kw_181, kw_182, kw_183⟩
theorem h_cv_prime : gCV "ToeplitzLabLaw" 159 58 0 := ⟨by unfold gCe; decide +kernel, rfl, kw_184, kw_185, kw_186, kw_187, kw_183⟩
theorem h_cv_entries : gCV "ToeplitzLabLaw" 262 96 0 := ⟨by unfold gCe; decide +kernel, rfl, kw_188, kw_189, kw_190, kw_191, kw_183⟩
theorem h_cv_undoable : gCV "ToeplitzLabLaw" 265 107 0 := ⟨by unfold gCe; decide +kernel, rfl, kw_192, kw_193, kw_194, kw_195, kw_183⟩
set_option maxRecDepth 100000 in
/-- from 26 to 94 -/
theorem h_26 {d lb o : Nat} (hc0 : hC E1 p s mI args cc) (hE : gEv E1 s H) (hR : gRep E1 ad I J B H) (hS : va_S (gA E0) s.heap H locs) (hsub : ∀ q, gA E1 q → gA E0 q) (hl : lv_has LS 5 [(1, .ref d), (2, .ref lb), (3, .ref o)]) (ho : ad (3, 0, 0) = o) (hfrm : hfr 151 + 1 ≤ R.frames ∧ 8 + (hml 151 + 11) + hlo 151 ≤ R.locals) (hc : c + 462 ≤ R.cells) (hw : w + 5472 ≤ R.slots) (hSy : Sys none I J) (hn : I 13 0 0 2 = gi 0) (hn1 : I 13 0 0 1 = gi 0) (hg3 : gVl B (3, 0, 0))
    (kk : ∀ (I' : gI) (J' : gJ) (ad' : gR → Nat) (H1 : Heap) (locs1 : List Loc), QF I I' → JQ J J' → gRep E1 ad' I' J' B H1 → H.size ≤ H1.size → (∀ q : Nat, q < H.size → ¬ gA E1 q → H1[q]? = H[q]?) → va_S (gA E0) s.heap H1 locs1 → (∀ r, gVl B r → ad' r = ad r) → W p (gl E1) e R s mI args below meth cc H1 locs1 (c + 462) (w + 5472) Qq (F0 mI 94 LS [])) :
    W p (gl E1) e R s mI args below meth cc H locs c w Qq (F0 mI 26 LS []) := by
  obtain ⟨hx, hb, hml, hown, hts⟩ := id hc0
  have hX : ∀ r, gVl B r → ad r = ad r := fun _ _ => rfl
  have hKK : ∀ q : Nat, q < H.size → ¬ gA E1 q → H[q]? = H[q]? := fun _ _ _ => rfl
  have hZZ : H.size ≤ H.size := Nat.le_refl _
  have m1 : hmc 151 = 154 := rfl
  have m2 : hms 151 = 1824 := rfl
  have m3 : hmc 57 = 0 ∧ hms 57 = 0 ∧ hmc 58 = 0 ∧ hms 58 = 0 ∧ hmc 96 = 0 ∧ hms 96 = 0 ∧ hmc 107 = 0 ∧ hms 107 = 0 := ⟨rfl, rfl, rfl, rfl, rfl, rfl, rfl, rfl⟩
  refine lv_aload_n hx hb (show decode cL_law 26 = .ok (.aload_n 3, 1) by decide +kernel) rfl (lv_at hl 2 rfl) ?_
  refine lv_bipush (v := gi 34) hx hb (show decode cL_law 27 = .ok (.bipush 34, 2) by decide +kernel) (by decide) ?_
  refine lv_iconst (v := gi 0) hx hb (show decode cL_law 29 = .ok (.iconst 0, 1) by decide +kernel) (by decide) ?_
  refine lv_iconst (v := gi 0) hx hb (show decode cL_law 30 = .ok (.iconst 0, 1) by decide +kernel) (by decide) ?_
  refine lv_iconst (v := gi 0) hx hb (show decode cL_law 31 = .ok (.iconst 0, 1) by decide +kernel) (by decide) ?_
  rw [show o = ad (3, 0, 0) from ho.symm]
  refine h_callS (as := [.inr (3, 0, 0), .inl (.int (gi 34)), .inl (.int (gi 0)), .inl (.int (gi 0)), .inl (.int (gi 0))]) (rest := []) (ad := ad) hc0 (show decode cL_law 32 = .ok (.invokestatic 190, 3) by decide +kernel) h_cs hfrm rfl (by decide) (by show _ + 154 ≤ R.cells; omega) (by show _ + 1824 ≤ R.slots; omega) hE hR (fun v hv => by simp only [List.mem_cons, List.not_mem_nil, or_false] at hv; rcases hv with rfl | rfl | rfl | rfl | rfl <;> first | exact hg3 | trivial) hS hsub hl.1 (z_thr (j := 0) (X := fun _ _ _ _ => False) (Q := fun v I' J' B' => v = .inl (.int (gi 1)) ∧ QF I I' ∧ JQ J J' ∧ B = B') (by decide) (fun Q X k2 => e_L_calls_34 ⟨⟨by decide, by decide⟩, qno (c_rank hSy) rfl k2⟩) fun I' J' q1 j1 => ⟨rfl, q1, j1, rfl⟩) ?_
  intro v I1 J1 B2 ad1 H1 locs1 hQ hR hx2 _ _ hz1 hk1 hS
  obtain ⟨rfl, q1, j1, rfl⟩ := hQ
  have hE := hE.to (State.WarmedH.refl s) hz1 hk1
  have ho : ad1 (3, 0, 0) = o := (hx2 _ hg3).trans ho
  have hS1 := q1.sys j1 hSy
  have hX : ∀ r, gVl B r → ad1 r = ad r := fun r h => (hx2 r h).trans (hX r h)
  have hKK : ∀ q : Nat, q < H.size → ¬ gA E1 q → H1[q]? = H[q]? := fun q h1 h2 => (hk1 q (Nat.lt_of_lt_of_le h1 hZZ) h2).trans (hKK q h1 h2)
  have hZZ : H.size ≤ H1.size := Nat.le_trans hZZ hz1
  clear hx2
  show W _ _ _ _ _ _ _ _ _ _ _ _ _ _ _ (F0 mI (32 + 3) LS [.int (gi 1)])
  refine lv_iconst (v := gi 1) hx hb (show decode cL_law 35 = .ok (.iconst 1, 1) by decide +kernel) (by decide) ?_
  refine lv_icmp_ne hx hb (show decode cL_law 36 = .ok (.if_icmp .ne 56, 3) by decide +kernel) (tgt := 92) rfl (fun z => absurd rfl z) (fun _ => ?_)
  refine lv_aload_n hx hb (show decode cL_law 39 = .ok (.aload_n 3, 1) by decide +kernel) rfl (lv_at hl 2 rfl) ?_
  refine lv_iconst (v := gi 1) hx hb (show decode cL_law 40 = .ok (.iconst 1, 1) by decide +kernel) (by decide) ?_
  refine lv_iconst (v := gi 0) hx hb (show decode cL_law 41 = .ok (.iconst 0, 1) by decide +kernel) (by decide) ?_
  refine lv_iconst (v := gi 0) hx hb (show decode cL_law 42 = .ok (.iconst 0, 1) by decide +kernel) (by decide) ?_
  refine lv_iconst (v := gi 0) hx hb (show decode cL_law 43 = .ok (.iconst 0, 1) by decide +kernel) (by decide) ?_
  rw [show o = ad1 (3, 0, 0) from ho.symm]
  refine h_callS (as := [.inr (3, 0, 0), .inl (.int (gi 1)), .inl (.int (gi 0)), .inl (.int (gi 0)), .inl (.int (gi 0))]) (rest := []) (ad := ad1) hc0 (show decode cL_law 44 = .ok (.invokestatic 190, 3) by decide +kernel) h_cs hfrm rfl (by decide) (by show _ + 154 ≤ R.cells; omega) (by show _ + 1824 ≤ R.slots; omega) hE hR (fun v hv => by simp only [List.mem_cons, List.not_mem_nil, or_false] at hv; rcases hv with rfl | rfl | rfl | rfl | rfl <;> first | exact hg3 | trivial) hS hsub hl.1 (z_thr (j := 0) (X := fun _ _ _ _ => False) (Q := fun v I' J' B' => v = .inl (.int (gi 1)) ∧ QF I1 I' ∧ JQ J1 J' ∧ B = B') (by decide) (fun Q X k2 => e_L_calls_1 ⟨⟨by decide, by decide⟩, qno (c_entry (by decide) (by decide) (by decide) (by decide) hS1) rfl k2⟩) fun I' J' q1 j1 => ⟨rfl, q1, j1, rfl⟩) ?_
  intro v I2 J2 B2 ad2 H2 locs2 hQ hR hx2 _ _ hz2 hk2 hS
  obtain ⟨rfl, q2, j2, rfl⟩ := hQ
  have hE := hE.to (State.WarmedH.refl s) hz2 hk2
  have ho : ad2 (3, 0, 0) = o := (hx2 _ hg3).trans ho
  have hS2 := q2.sys j2 hS1
  have hX : ∀ r, gVl B r → ad2 r = ad r := fun r h => (hx2 r h).trans (hX r h)
  have hKK : ∀ q : Nat, q < H.size → ¬ gA E1 q → H2[q]? = H[q]? := fun q h1 h2 => (hk2 q (Nat.lt_of_lt_of_le h1 hZZ) h2).trans (hKK q h1 h2)
  have hZZ : H.size ≤ H2.size := Nat.le_trans hZZ hz2
  clear hx2
  show W _ _ _ _ _ _ _ _ _ _ _ _ _ _ _ (F0 mI (44 + 3) LS [.int (gi 1)])
  refine lv_iconst (v := gi 1) hx hb (show decode cL_law 47 = .ok (.iconst 1, 1) by decide +kernel) (by decide) ?_
  refine lv_icmp_ne hx hb (show decode cL_law 48 = .ok (.if_icmp .ne 44, 3) by decide +kernel) (tgt := 92) rfl (fun z => absurd rfl z) (fun _ => ?_)
  have hn12 : I2 13 0 0 1 = gi 0 := (q2 13 0 0 1 (by unfold KQ; omega)).trans ((q1 13 0 0 1 (by unfold KQ; omega)).trans hn1)
  have hn2 : I2 13 0 0 2 = gi 0 := (q2 13 0 0 2 (by unfold KQ; omega)).trans ((q1 13 0 0 2 (by unfold KQ; omega)).trans hn)
  refine lv_aload_n hx hb (show decode cL_law 51 = .ok (.aload_n 3, 1) by decide +kernel) rfl (lv_at hl 2 rfl) ?_
  refine lv_bipush (v := gi 30) hx hb (show decode cL_law 52 = .ok (.bipush 30, 2) by decide +kernel) (by decide) ?_
  refine lv_iconst (v := gi 0) hx hb (show decode cL_law 54 = .ok (.iconst 0, 1) by decide +kernel) (by decide) ?_
  refine lv_iconst (v := gi 0) hx hb (show decode cL_law 55 = .ok (.iconst 0, 1) by decide +kernel) (by decide) ?_
  refine lv_iconst (v := gi 0) hx hb (show decode cL_law 56 = .ok (.iconst 0, 1) by decide +kernel) (by decide) ?_
  rw [show o = ad2 (3, 0, 0) from ho.symm]
  refine h_callS (as := [.inr (3, 0, 0), .inl (.int (gi 30)), .inl (.int (gi 0)), .inl (.int (gi 0)), .inl (.int (gi 0))]) (rest := []) (ad := ad2) hc0 (show decode cL_law 57 = .ok (.invokestatic 190, 3) by decide +kernel) h_cs hfrm rfl (by decide) (by show _ + 154 ≤ R.cells; omega) (by show _ + 1824 ≤ R.slots; omega) hE hR (fun v hv => by simp only [List.mem_cons, List.not_mem_nil, or_false] at hv; rcases hv with rfl | rfl | rfl | rfl | rfl <;> first | exact hg3 | trivial) hS hsub hl.1 (z_thr (j := 0) (X := fun _ _ _ _ => False) (Q := fun v I' J' B' => v = .inl (.int (gi 1)) ∧ QF I2 I' ∧ JQ J2 J' ∧ B = B') (by decide) (fun Q X k2 => e_L_calls_30 ⟨⟨by decide, by decide⟩, c_undo (c := 0) (nx := 0) (h := fun _ => fun _ => 0) ⟨hn2, hn12, by decide, by decide, fun j hj => absurd hj (Nat.not_lt_zero j)⟩ (fun y => absurd rfl y) (fun _ => k2 I2 J2 QF.rf JQ.rf)⟩) fun I' J' q1 j1 => ⟨rfl, q1, j1, rfl⟩) ?_
  intro v I3 J3 B2 ad3 H3 locs3 hQ hR hx2 _ _ hz3 hk3 hS
  obtain ⟨rfl, q3, j3, rfl⟩ := hQ
  have hE := hE.to (State.WarmedH.refl s) hz3 hk3
  have ho : ad3 (3, 0, 0) = o := (hx2 _ hg3).trans ho
  have hS3 := q3.sys j3 hS2
  have hX : ∀ r, gVl B r → ad3 r = ad r := fun r h => (hx2 r h).trans (hX r h)
  have hKK : ∀ q : Nat, q < H.size → ¬ gA E1 q → H3[q]? = H[q]? := fun q h1 h2 => (hk3 q (Nat.lt_of_lt_of_le h1 hZZ) h2).trans (hKK q h1 h2)
  have hZZ : H.size ≤ H3.size := Nat.le_trans hZZ hz3
  clear hx2
  show W _ _ _ _ _ _ _ _ _ _ _ _ _ _ _ (F0 mI (57 + 3) LS [.int (gi 1)])
  refine lv_iconst (v := gi 1) hx hb (show decode cL_law 60 = .ok (.iconst 1, 1) by decide +kernel) (by decide) ?_
  refine lv_icmp_ne hx hb (show decode cL_law 61 = .ok (.if_icmp .ne 31, 3) by decide +kernel) (tgt := 92) rfl (fun z => absurd rfl z) (fun _ => ?_)
  have hn3 : I3 13 0 0 2 = gi 0 := (q3 13 0 0 2 (by unfold KQ; omega)).trans hn2
  refine lv_aload_n hx hb (show decode cL_law 64 = .ok (.aload_n 3, 1) by decide +kernel) rfl (lv_at hl 2 rfl) ?_
  rw [show o = ad3 (3, 0, 0) from ho.symm]
  refine h_callV (q := (3, 0, 0)) (as := []) (rest := []) (ad := ad3) hc0 (show decode cL_law 65 = .ok (.invokevirtual 151, 3) by decide +kernel) h_cv_size ⟨Nat.le_trans (by decide) hfrm.1, Nat.le_trans (by decide) hfrm.2⟩ rfl rfl rfl rfl (by decide) (by show _ + 0 ≤ R.cells; omega) (by show _ + 0 ≤ R.slots; omega) hE hR (fun v hv => by simp only [List.mem_cons, List.not_mem_nil, or_false] at hv; rw [hv]; exact hg3) hS hsub hl.1 (e_X7_size (Q := fun v I' J' B' => v = .inl (.int (gi 0)) ∧ I3 = I' ∧ J3 = J' ∧ B = B') ⟨by rw [hS3.1], rfl, rfl, rfl⟩) ?_
  intro v I9 J9 B2 ad4 H4 locs4 hQ hR hx2 _ _ hz4 hk4 hS
  obtain ⟨rfl, rfl, rfl, rfl⟩ := hQ
  have hE := hE.to (State.WarmedH.refl s) hz4 hk4
  have ho : ad4 (3, 0, 0) = o := (hx2 _ hg3).trans ho
  have hX : ∀ r, gVl B r → ad4 r = ad r := fun r h => (hx2 r h).trans (hX r h)
  have hKK : ∀ q : Nat, q < H.size → ¬ gA E1 q → H4[q]? = H[q]? := fun q h1 h2 => (hk4 q (Nat.lt_of_lt_of_le h1 hZZ) h2).trans (hKK q h1 h2)
  have hZZ : H.size ≤ H4.size := Nat.le_trans hZZ hz4
  clear hx2
  show W _ _ _ _ _ _ _ _ _ _ _ _ _ _ _ (F0 mI (65 + 3) LS [.int (gi 0)])
  refine lv_if_ne hx hb (show decode cL_law 68 = .ok (.ifCond .ne 24, 3) by decide +kernel) (tgt := 92) rfl (fun z => absurd rfl z) (fun _ => ?_)
  refine lv_aload_n hx hb (show decode cL_law 71 = .ok (.aload_n 3, 1) by decide +kernel) rfl (lv_at hl 2 rfl) ?_
  rw [show o = ad4 (3, 0, 0) from ho.symm]
  refine h_callV (q := (3, 0, 0)) (as := []) (rest := []) (ad := ad4) hc0 (show decode cL_law 72 = .ok (.invokevirtual 159, 3) by decide +kernel) h_cv_prime ⟨Nat.le_trans (by decide) hfrm.1, Nat.le_trans (by decide) hfrm.2⟩ rfl rfl rfl rfl (by decide) (by show _ + 0 ≤ R.cells; omega) (by show _ + 0 ≤ R.slots; omega) hE hR (fun v hv => by simp only [List.mem_cons, List.not_mem_nil, or_false] at hv; rw [hv]; exact hg3) hS hsub hl.1 (e_X7_prime (Q := fun v I' J' B' => v = .inl (.int (gi 0)) ∧ I3 = I' ∧ J3 = J' ∧ B = B') ⟨by rw [hS3.2.1], rfl, rfl, rfl⟩) ?_
  intro v I9 J9 B2 ad5 H5 locs5 hQ hR hx2 _ _ hz5 hk5 hS
  obtain ⟨rfl, rfl, rfl, rfl⟩ := hQ
  have hE := hE.to (State.WarmedH.refl s) hz5 hk5
  have ho : ad5 (3, 0, 0) = o := (hx2 _ hg3).trans ho
  have hX : ∀ r, gVl B r → ad5 r = ad r := fun r h => (hx2 r h).trans (hX r h)
  have hKK : ∀ q : Nat, q < H.size → ¬ gA E1 q → H5[q]? = H[q]? := fun q h1 h2 => (hk5 q (Nat.lt_of_lt_of_le h1 hZZ) h2).trans (hKK q h1 h2)
  have hZZ : H.size ≤ H5.size := Nat.le_trans hZZ hz5
  clear hx2
  show W _ _ _ _ _ _ _ _ _ _ _ _ _ _ _ (F0 mI (72 + 3) LS [.int (gi 0)])
  refine lv_if_ne hx hb (show decode cL_law 75 = .ok (.ifCond .ne 17, 3) by decide +kernel) (tgt := 92) rfl (fun z => absurd rfl z) (fun _ => ?_)
  refine lv_aload_n hx hb (show decode cL_law 78 = .ok (.aload_n 3, 1) by decide +kernel) rfl (lv_at hl 2 rfl) ?_
  rw [show o = ad5 (3, 0, 0) from ho.symm]
  refine h_callV (q := (3, 0, 0)) (as := []) (rest := []) (ad := ad5) hc0 (show decode cL_law 79 = .ok (.invokevirtual 262, 3) by decide +kernel) h_cv_entries ⟨Nat.le_trans (by decide) hfrm.1, Nat.le_trans (by decide) hfrm.2⟩ rfl rfl rfl rfl (by decide) (by show _ + 0 ≤ R.cells; omega) (by show _ + 0 ≤ R.slots; omega) hE hR (fun v hv => by simp only [List.mem_cons, List.not_mem_nil, or_false] at hv; rw [hv]; exact hg3) hS hsub hl.1 (e_X7_entries (Q := fun v I' J' B' => v = .inl (.int (gi 0)) ∧ I3 = I' ∧ J3 = J' ∧ B = B') ⟨by rw [hS3.2.2], rfl, rfl, rfl⟩) ?_
  intro v I9 J9 B2 ad6 H6 locs6 hQ hR hx2 _ _ hz6 hk6 hS
  obtain ⟨rfl, rfl, rfl, rfl⟩ := hQ
  have hE := hE.to (State.WarmedH.refl s) hz6 hk6
  have ho : ad6 (3, 0, 0) = o := (hx2 _ hg3).trans ho
  have hX : ∀ r, gVl B r → ad6 r = ad r := fun r h => (hx2 r h).trans (hX r h)
  have hKK : ∀ q : Nat, q < H.size → ¬ gA E1 q → H6[q]? = H[q]? := fun q h1 h2 => (hk6 q (Nat.lt_of_lt_of_le h1 hZZ) h2).trans (hKK q h1 h2)
  have hZZ : H.size ≤ H6.size := Nat.le_trans hZZ hz6
  clear hx2
  show W _ _ _ _ _ _ _ _ _ _ _ _ _ _ _ (F0 mI (79 + 3) LS [.int (gi 0)])
  refine lv_if_ne hx hb (show decode cL_law 82 = .ok (.ifCond .ne 10, 3) by decide +kernel) (tgt := 92) rfl (fun z => absurd rfl z) (fun _ => ?_)
  refine lv_aload_n hx hb (show decode cL_law 85 = .ok (.aload_n 3, 1) by decide +kernel) rfl (lv_at hl 2 rfl) ?_
  rw [show o = ad6 (3, 0, 0) from ho.symm]
  refine h_callV (q := (3, 0, 0)) (as := []) (rest := []) (ad := ad6) hc0 (show decode cL_law 86 = .ok (.invokevirtual 265, 3) by decide +kernel) h_cv_undoable ⟨Nat.le_trans (by decide) hfrm.1, Nat.le_trans (by decide) hfrm.2⟩ rfl rfl rfl rfl (by decide) (by show _ + 0 ≤ R.cells; omega) (by show _ + 0 ≤ R.slots; omega) hE hR (fun v hv => by simp only [List.mem_cons, List.not_mem_nil, or_false] at hv; rw [hv]; exact hg3) hS hsub hl.1 (e_X7_undoable (Q := fun v I' J' B' => v = .inl (.int (gi 0)) ∧ I3 = I' ∧ J3 = J' ∧ B = B') ⟨by rw [hn3], rfl, rfl, rfl⟩) ?_
  intro v I9 J9 B2 ad7 H7 locs7 hQ hR hx2 _ _ hz7 hk7 hS
  obtain ⟨rfl, rfl, rfl, rfl⟩ := hQ
  have hE := hE.to (State.WarmedH.refl s) hz7 hk7
  have ho : ad7 (3, 0, 0) = o := (hx2 _ hg3).trans ho
  have hX : ∀ r, gVl B r → ad7 r = ad r := fun r h => (hx2 r h).trans (hX r h)
  have hKK : ∀ q : Nat, q < H.size → ¬ gA E1 q → H7[q]? = H[q]? := fun q h1 h2 => (hk7 q (Nat.lt_of_lt_of_le h1 hZZ) h2).trans (hKK q h1 h2)
  have hZZ : H.size ≤ H7.size := Nat.le_trans hZZ hz7
  clear hx2
  show W _ _ _ _ _ _ _ _ _ _ _ _ _ _ _ (F0 mI (86 + 3) LS [.int (gi 0)])
  refine lv_if_eq hx hb (show decode cL_law 89 = .ok (.ifCond .eq 5, 3) by decide +kernel) (tgt := 94) rfl (fun _ => ?_) (fun z => absurd rfl z)
  have hRc : c + hmc 151 + hmc 151 + hmc 151 + hmc 57 + hmc 58 + hmc 96 + hmc 107 = c + 462 := by omega
  have hRw : w + hms 151 + hms 151 + hms 151 + hms 57 + hms 58 + hms 96 + hms 107 = w + 5472 := by omega
  rw [hRc, hRw]
  exact kk I3 J3 ad7 H7 locs7 (q1.tr (q2.tr q3)) (j1.tr (j2.tr j3)) hR hZZ hKK hS hX
end HH
