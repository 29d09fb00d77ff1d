section GH
variable {E : gEn} {y y2 pc : Nat} {ls : List (Nat × gV)} {st r : List gV} {I : gI} {J : gJ} {B : gB} {c w : Nat} {Q : gQt} {X : gXt}
theorem gBig_good {w : Cond} (h : w ∈ gBig) : (w.onTables && w.keeps) = true ∨ ∃ ty, w = .arrayClass ty := good_of_word (List.mem_filter.mp h).2
theorem gPc_blind {av : List Value} {ad : gR → Nat} : FrameBlind (va_Pc av (fun U => gEv E U U.heap ∧ gRep E ad I J B U.heap)) := by
  intro a U g mk h
  obtain ⟨h1, h2, h3⟩ := h
  refine ⟨h1, ?_, h3⟩
  exact gEv.to (U := U.calling g mk a) (H1 := U.heap) (State.WarmedH.refl U) h2 (Nat.le_refl _) (fun _ _ _ => rfl)
theorem gPc_at {s U : State} {H : Heap} {locs : List Loc} {ad : gR → Nat} (hE : gEv E s s.heap) (hS : va_S (gA E) s.heap H locs) (hR : gRep E ad I J B H) (hU : U.heap = H) (hW : s.WarmedH U.vm) : gEv E U U.heap ∧ gRep E ad I J B U.heap := by
  rw [hU]
  exact ⟨hE.to hW hS.1 hS.2.1, hR⟩
/-- what goes on the caller's stack -/
def gpush (y2 : Nat) (v : gV) (r : List gV) : List gV := match hr y2 with
  | none => r
  | some _ => v :: r
theorem gpush_cv {ad : gR → Nat} {v : gV} : (gout y2 ad v).toList ++ r.map (gcv ad) = (gpush y2 v r).map (gcv ad) := by
  unfold gout gpush
  cases hr y2 <;> rfl
/-- thrown over this frame -/
def gGx (E : gEn) (y pc : Nat) (ls : List (Nat × gV)) (k : Nat) (I : gI) (J : gJ) (B : gB) (c w : Nat) (Q : gQt) (X : gXt) : Prop :=
  c ≤ hmc y → w ≤ hms y → ∀ (p : Program) (e : Env) (s : State) (m : MethodId) (args : Array Value) (below : List Frame) (meth : Method) (cc : Code) (ad0 : gR → Nat) (Bs : gB), gCx E y p e s m args below meth cc → cc.exceptionTable.toList = tableOf (hht y) →
    ∀ (H : Heap) (locs : List Loc) (LS : Array Slot) (ad : gR → Nat), gSt E y ad0 Bs s H locs LS ad ls [] I J B → ∀ (q : Addr) (ce : Cell) (rest : List Value), H[q]? = some ce → ce.vm = .none → s.vm.findClass (gxn k) = some ce.cls →
      vx_W p (gl E) e (hrm y) s m args below meth cc H locs c w (vx_MQ below (gQc E y ad0 Bs Q) (gXc E ad0 Bs X) args s (hmc y) (hms y) (gA E)) (F0 m pc LS rest) q
theorem gvs_cv {ad ad2 : gR → Nat} (hx : gExt ad B ad2) (hv : ∀ v ∈ st, gVv B v) : st.map (gcv ad2) = st.map (gcv ad) := by
  apply List.map_congr_left
  intro v h
  cases v with
  | inl u => rfl
  | inr q => exact congrArg Value.ref (hx q (hv _ h))
theorem gls_cv {ad ad2 : gR → Nat} (hx : gExt ad B ad2) (hv : ∀ q ∈ ls, gVv B q.2) : ls.map (gcp ad2) = ls.map (gcp ad) := by
  apply List.map_congr_left
  intro q h
  obtain ⟨a, v⟩ := q
  cases v with
  | inl u => rfl
  | inr q => exact Prod.ext rfl (congrArg Value.ref (hx q (hv _ h)))
/-- behind a run of a callee -/
theorem g_run {p : Program} {e : Env} {s : State} {m : MethodId} {args a2 : Array Value} {below : List Frame} {meth : Method} {cc : Code} {ad0 : gR → Nat} {Bs : gB} {H : Heap} {locs : List Loc} {LS : Array Slot} {ad : gR → Nat} {st0 : List Value} {Q2 : gQt} {X2 : gXt}
    (hc2 : c + hmc y2 ≤ hmc y) (hw2 : w + hms y2 ≤ hms y) (hC : gCx E y p e s m args below meth cc) (hT : cc.exceptionTable.toList = tableOf (hht y)) (hS : gSt E y ad0 Bs s H locs LS ad ls st I J B) (hr2 : ∀ v ∈ r, gVv B v)
    (hrun : vx_Run p (gl E) e (hrm y) s m args below meth cc H locs c w (hmc y2) (hms y2) (F0 m pc LS st0) (r.map (gcv ad)) (gQc E y2 ad B Q2 a2) (gXc E ad B X2) (gA E))
    (kk : ∀ v I2 J2 B2, Q2 v I2 J2 B2 → gG E y (pc + 3) ls (gpush y2 v r) I2 J2 B2 (c + hmc y2) (w + hms y2) Q X)
    (kx : ∀ k I2 J2 B2, k < 3 → X2 k I2 J2 B2 → gGx E y pc ls k I2 J2 B2 (c + hmc y2) (w + hms y2) Q X) :
    W p (gl E) e (hrm y) s m args below meth cc H locs c w (vx_MQ below (gQc E y ad0 Bs Q) (gXc E ad0 Bs X) args s (hmc y) (hms y) (gA E)) (F0 m pc LS st0) := by
  intro T hTT Xs
  rcases hrun T hTT Xs with ⟨v, st₀, t, T', L, h0, X', hL, e1, e2, ⟨⟨v0, I2, J2, B2, ad2, hv, hq, hR, hx, hle, hvv⟩, hF⟩, stp⟩ | ⟨q, st₀, t, T', L, En, ce, h0, X', hL, e1, e2, ⟨⟨k, I2, J2, B2, ad2, ⟨hk, hkE⟩, hq, hR, hx, hle⟩, hF⟩, hce, hcv, hcl, stp⟩
  · cases hv
    obtain ⟨k1, k2, k3⟩ := vx_keep h0 e1 hS.2.1 (fun _ _ h => h) (fun _ h => h) hL hF
    have hSt : gSt E y ad0 Bs s T'.heap (locs ++ L) LS ad2 ls (gpush y2 v0 r) I2 J2 B2 := by
      refine ⟨by rw [e1]; exact hR, k3, ?_, fun q h => (hx q (gVl_le hS.2.2.2.2.1 h)).trans (hS.2.2.2.1 q h), hS.2.2.2.2.1.tr hle, fun q hq => gVv_le hle (hS.2.2.2.2.2.1 q hq), ?_⟩
      · rw [gls_cv hx hS.2.2.2.2.2.1]
        exact hS.2.2.1
      · unfold gpush
        cases hr y2 with
        | none => exact fun v h => gVv_le hle (hr2 v h)
        | some _ => exact gvs_c hvv (fun v h => gVv_le hle (hr2 v h))
    have hW := kk v0 I2 J2 B2 hq hc2 hw2 p e s m args below meth cc ad0 Bs hC hT T'.heap (locs ++ L) LS ad2 hSt
    rw [← gpush_cv, gvs_cv hx hr2] at hW
    obtain ⟨t2, a1, b1⟩ := hW T' rfl X'
    exact ⟨t2, stp t2 a1, b1⟩
  · obtain ⟨k1, k2, k3⟩ := vx_keep h0 e1 hS.2.1 (fun _ _ h => h) (fun _ h => h) hL hF
    have hSt : gSt E y ad0 Bs s T'.heap (locs ++ L) LS ad2 ls [] I2 J2 B2 := by
      refine ⟨by rw [e1]; exact hR, k3, ?_, fun q h => (hx q (gVl_le hS.2.2.2.2.1 h)).trans (hS.2.2.2.1 q h), hS.2.2.2.2.1.tr hle, fun q hq => gVv_le hle (hS.2.2.2.2.2.1 q hq), fun v h => by cases h⟩
      rw [gls_cv hx hS.2.2.2.2.2.1]
      exact hS.2.2.1
    have hW := kx k I2 J2 B2 hk hq hc2 hw2 p e s m args below meth cc ad0 Bs hC hT T'.heap (locs ++ L) LS ad2 hSt q ce (r.map (gcv ad)) (by rw [e1]; exact hce) hcv (by rw [hkE]; exact hcl)
    obtain ⟨t2, a1, b1⟩ := hW T' rfl X'
    exact ⟨t2, stp.trans a1, b1⟩
/-- what a call needs of its callee -/
def gCe (y2 n : Nat) : Prop := (hy y2).cls ≠ "java/lang/invoke/MethodHandle" ∧ (hy y2).cls ≠ "java/lang/invoke/VarHandle" ∧ (parseMethodDescriptor (hy y2).desc).map (fun d => d.parameters.length) = some n
def gRm (y y2 : Nat) : Prop := hfr y2 + 1 ≤ hfr y ∧ 8 + (hml y2 + 11) + hlo y2 ≤ hlo y
theorem gGood_hws (h : hht y2 = []) (hc : Cond.code (hy y2) (hb y2) (hml y2) (hr y2) ∈ gBig) : GoodIn gBig (hws y2) := by
  intro u hu
  unfold hws hcw at hu
  rw [h] at hu
  rcases List.mem_cons.mp hu with rfl | hu
  · exact ⟨hc, gBig_good hc⟩
  · exact ⟨hu, gBig_good hu⟩
theorem hws_code (h : hht y2 = []) : hws y2 = Cond.code (hy y2) (hb y2) (hml y2) (hr y2) :: gBig := by
  unfold hws hcw
  rw [h]
/-- the words of a call of an instance method -/
def gCV (own : String) (n y2 np : Nat) : Prop := gCe y2 np ∧ hht y2 = [] ∧ Cond.code (hy y2) (hb y2) (hml y2) (hr y2) ∈ gBig ∧ Cond.methodLink own n (hy y2) ∈ gBig ∧ Cond.instanceMethod (hy y2) ∈ gBig ∧ Cond.selects (hy y2).cls (hy y2) (hy y2) ∈ gBig ∧ Cond.initialized (hy y2).cls ∈ gBig
/-- the words of a call of a static one -/
def gCS (own : String) (n y2 np : Nat) : Prop := gCe y2 np ∧ hht y2 = [] ∧ Cond.code (hy y2) (hb y2) (hml y2) (hr y2) ∈ gBig ∧ Cond.methodLink own n (hy y2) ∈ gBig ∧ Cond.static (hy y2) ∈ gBig ∧ Cond.initialized (hy y2).cls ∈ gBig
theorem gp_callV {n np : Nat} {q : gR} {as : List gV} {ci : Nat} {fl : List (Nat × Nat)} {z : vw_C} {Q2 : gQt} {X2 : gXt} (hd : decode (hb y) pc = .ok (.invokevirtual n, 3)) (hl : gCV (hy y).cls n y2 np) (hm : gRm y y2) (hn : as.length = np) (ho : gobj q.1 = some (ci, fl)) (hz : vwCl[ci]? = some z) (hz1 : z.1 = (hy y2).cls)
    (hsm : gsum r ≤ 8) (hc2 : c + hmc y2 ≤ hmc y) (hw2 : w + hms y2 ≤ hms y) (hM : gC E y2 (.inr q :: as) I J B Q2 X2)
    (kk : ∀ v I2 J2 B2, Q2 v I2 J2 B2 → gG E y (pc + 3) ls (gpush y2 v r) I2 J2 B2 (c + hmc y2) (w + hms y2) Q X)
    (kx : ∀ k I2 J2 B2, k < 3 → X2 k I2 J2 B2 → gGx E y pc ls k I2 J2 B2 (c + hmc y2) (w + hms y2) Q X) : gG E y pc ls (as.reverse ++ .inr q :: r) I J B c w Q X := by
  intro hc hw p e s m args below meth cc ad0 Bs hC hT H locs LS ad hS
  obtain ⟨ux, ub, ur, uml, hown, hts, ulk, hE⟩ := id hC
  obtain ⟨⟨e1, e2, e3⟩, l0, l1, l2, l3, l4, l5⟩ := hl
  have hvq : gVv B (.inr q) := hS.vs _ (by simp)
  have hva : ∀ v ∈ (.inr q :: as : List gV), gVv B v := by
    intro v h
    rcases List.mem_cons.mp h with rfl | h
    · exact hvq
    · exact hS.vs v (by simp [h])
  have hvr : ∀ v ∈ r, gVv B v := fun v h => hS.vs v (by simp [h])
  have hq : q ∈ gids B := gV_ids hvq (gobj_k3 ho)
  obtain ⟨q0, -, hq0⟩ := gws_get (E := E) (ad := ad) (I := I) (J := J) hq
  rw [genc_obj ho] at hq0
  have hrecv := va_recv hE.1 hS.1.1 hz hq0
  rw [hz1] at hrecv
  have hgood : GoodIn gBig (wsV (hy y).cls n (hy y2).cls (hy y2) (hws y2)) := by
    intro u hu
    unfold wsV at hu
    rcases List.mem_append.mp hu with hu | hu
    · simp only [List.mem_cons, List.not_mem_nil, or_false] at hu
      rcases hu with rfl | rfl | rfl | rfl
      · exact ⟨l2, gBig_good l2⟩
      · exact ⟨l3, gBig_good l3⟩
      · exact ⟨l4, gBig_good l4⟩
      · exact ⟨l5, gBig_good l5⟩
    · exact gGood_hws l0 l1 u hu
  have cw : CallW (hrm y) s args (hy y).cls (hy y2).cls n (hy y2) (hb y2) (hml y2) (hr y2) (hws y2) (hrm y2) (hmc y2) (hms y2) np := cwV np hts hgood (hws_code l0) rfl rfl ⟨rfl, e1, e2, e3⟩ hm
  have hrun := vx_runV (Ts := gBig) (g := F0 m pc LS ((as.map (gcv ad)).reverse ++ .ref (ad q) :: r.map (gcv ad))) (As := as.map (gcv ad)) (rest := r.map (gcv ad)) (b := ad q) (H := H) (locs := locs) (cells := c) (slots := w) (e := e) (below := below) (meth := meth) ⟨ux, ub, uml, hown, hts⟩ (hM hva ad) cw
    ⟨gPc_blind, hrecv, fun U hU hW => ⟨rfl, gPc_at hE hS.2.1 hS.1 hU hW⟩⟩ rfl (by rw [List.length_map]; exact hn) hS.2.2.1.1 rfl (lv_room (by rw [gsum_cv]; exact hsm)) hd ⟨hc2, hw2⟩
  have key := g_run (y2 := y2) hc2 hw2 hC hT hS hvr hrun kk kx
  rw [List.map_append, List.map_reverse]
  exact key
theorem gp_callT {n np : Nat} {q : gR} {as : List gV} {Q2 : gQt} {X2 : gXt} (hd : decode (hb y) pc = .ok (.invokevirtual n, 3)) (hl : gCV (hy y).cls n y2 np) (hm : gRm y y2) (hn : as.length = np) (ho : q.1 = 2) (hz1 : (hy y2).cls = "java/lang/String")
    (hsm : gsum r ≤ 8) (hc2 : c + hmc y2 ≤ hmc y) (hw2 : w + hms y2 ≤ hms y) (hM : gC E y2 (.inr q :: as) I J B Q2 X2)
    (kk : ∀ v I2 J2 B2, Q2 v I2 J2 B2 → gG E y (pc + 3) ls (gpush y2 v r) I2 J2 B2 (c + hmc y2) (w + hms y2) Q X)
    (kx : ∀ k I2 J2 B2, k < 3 → X2 k I2 J2 B2 → gGx E y pc ls k I2 J2 B2 (c + hmc y2) (w + hms y2) Q X) : gG E y pc ls (as.reverse ++ .inr q :: r) I J B c w Q X := by
  intro hc hw p e s m args below meth cc ad0 Bs hC hT H locs LS ad hS
  obtain ⟨ux, ub, ur, uml, hown, hts, ulk, hE⟩ := id hC
  obtain ⟨⟨e1, e2, e3⟩, l0, l1, l2, l3, l4, l5⟩ := hl
  have hvq : gVv B (.inr q) := hS.vs _ (by simp)
  have hva : ∀ v ∈ (.inr q :: as : List gV), gVv B v := by
    intro v h
    rcases List.mem_cons.mp h with rfl | h
    · exact hvq
    · exact hS.vs v (by simp [h])
  have hvr : ∀ v ∈ r, gVv B v := fun v h => hS.vs v (by simp [h])
  have hq : q.2.1 < 7 ∧ q.2.2 = 0 := by
    rcases hvq with rfl | h | h | h
    · exact absurd ho (by decide)
    · omega
    · exact h.2
    · exact absurd (gall_k3 q (gids_all h)) (by omega)
  have hrecv := vk_recv hE.2.2.2.2.2.2.2.2.2.2.2.2.1 hq.1 hS.2.1
  have had : ad q = gax E (2, q.2.1, 0) := by
    have hqe : q = (2, q.2.1, 0) := Prod.ext ho (Prod.ext rfl hq.2)
    rw [hS.1.2.2.1 q (by omega), hqe]
  rw [← hz1, ← had] at hrecv
  have hgood : GoodIn gBig (wsV (hy y).cls n (hy y2).cls (hy y2) (hws y2)) := by
    intro u hu
    unfold wsV at hu
    rcases List.mem_append.mp hu with hu | hu
    · simp only [List.mem_cons, List.not_mem_nil, or_false] at hu
      rcases hu with rfl | rfl | rfl | rfl
      · exact ⟨l2, gBig_good l2⟩
      · exact ⟨l3, gBig_good l3⟩
      · exact ⟨l4, gBig_good l4⟩
      · exact ⟨l5, gBig_good l5⟩
    · exact gGood_hws l0 l1 u hu
  have cw : CallW (hrm y) s args (hy y).cls (hy y2).cls n (hy y2) (hb y2) (hml y2) (hr y2) (hws y2) (hrm y2) (hmc y2) (hms y2) np := cwV np hts hgood (hws_code l0) rfl rfl ⟨rfl, e1, e2, e3⟩ hm
  have hrun := vx_runV (Ts := gBig) (g := F0 m pc LS ((as.map (gcv ad)).reverse ++ .ref (ad q) :: r.map (gcv ad))) (As := as.map (gcv ad)) (rest := r.map (gcv ad)) (b := ad q) (H := H) (locs := locs) (cells := c) (slots := w) (e := e) (below := below) (meth := meth) ⟨ux, ub, uml, hown, hts⟩ (hM hva ad) cw
    ⟨gPc_blind, hrecv, fun U hU hW => ⟨rfl, gPc_at hE hS.2.1 hS.1 hU hW⟩⟩ rfl (by rw [List.length_map]; exact hn) hS.2.2.1.1 rfl (lv_room (by rw [gsum_cv]; exact hsm)) hd ⟨hc2, hw2⟩
  have key := g_run (y2 := y2) hc2 hw2 hC hT hS hvr hrun kk kx
  rw [List.map_append, List.map_reverse]
  exact key
theorem gp_callS {n np : Nat} {as : List gV} {Q2 : gQt} {X2 : gXt} (hd : decode (hb y) pc = .ok (.invokestatic n, 3)) (hl : gCS (hy y).cls n y2 np) (hm : gRm y y2) (hn : as.length = np)
    (hsm : gsum r ≤ 8) (hc2 : c + hmc y2 ≤ hmc y) (hw2 : w + hms y2 ≤ hms y) (hM : gC E y2 as I J B Q2 X2)
    (kk : ∀ v I2 J2 B2, Q2 v I2 J2 B2 → gG E y (pc + 3) ls (gpush y2 v r) I2 J2 B2 (c + hmc y2) (w + hms y2) Q X)
    (kx : ∀ k I2 J2 B2, k < 3 → X2 k I2 J2 B2 → gGx E y pc ls k I2 J2 B2 (c + hmc y2) (w + hms y2) Q X) : gG E y pc ls (as.reverse ++ r) I J B c w Q X := by
  intro hc hw p e s m args below meth cc ad0 Bs hC hT H locs LS ad hS
  obtain ⟨ux, ub, ur, uml, hown, hts, ulk, hE⟩ := id hC
  obtain ⟨⟨e1, e2, e3⟩, l0, l1, l2, l3, l5⟩ := hl
  have hva : ∀ v ∈ as, gVv B v := fun v h => hS.vs v (by simp [h])
  have hvr : ∀ v ∈ r, gVv B v := fun v h => hS.vs v (by simp [h])
  have hgood : GoodIn gBig (va_wsS (hy y).cls n (hy y2) (hws y2)) := by
    intro u hu
    unfold va_wsS at hu
    rcases List.mem_append.mp hu with hu | hu
    · simp only [List.mem_cons, List.not_mem_nil, or_false] at hu
      rcases hu with rfl | rfl | rfl
      · exact ⟨l2, gBig_good l2⟩
      · exact ⟨l3, gBig_good l3⟩
      · exact ⟨l5, gBig_good l5⟩
    · exact gGood_hws l0 l1 u hu
  have cw := va_cwS (R := hrm y) (s := s) (args := args) (own := (hy y).cls) (index := n) (y := hy y2) (bytes := hb y2) (maxL := hml y2) (ret := hr y2) (mc := hmc y2) (ms := hms y2) (rm := hrm y2) np hts hgood (hws_code l0) rfl rfl ⟨e1, e2, e3⟩ hm
  have hrun := vx_runS (Ts := gBig) (g := F0 m pc LS ((as.map (gcv ad)).reverse ++ r.map (gcv ad))) (As := as.map (gcv ad)) (rest := r.map (gcv ad)) (H := H) (locs := locs) (cells := c) (slots := w) (e := e) (below := below) (meth := meth) ⟨ux, ub, uml, hown, hts⟩ (hM hva ad) cw
    ⟨gPc_blind, fun U hU hW => ⟨rfl, gPc_at hE hS.2.1 hS.1 hU hW⟩⟩ rfl (by rw [List.length_map]; exact hn) hS.2.2.1.1 rfl (lv_room (by rw [gsum_cv]; exact hsm)) hd ⟨hc2, hw2⟩
  have key := g_run (y2 := y2) hc2 hw2 hC hT hS hvr hrun kk kx
  rw [List.map_append, List.map_reverse]
  exact key
end GH
