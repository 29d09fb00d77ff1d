/-! ===== the law's frame over a later start ===== -/
section HB
variable {p : Program} {l : Launch} {e : Env} {R : Room} {s : State} {m : MethodId} {args : Array Value} {below : List Frame} {meth : Method} {c : Code} {T : State} {locs : List Loc} {cells slots : Nat}
theorem h_off {A B : State} {F : List Frame} {locs : List Loc} {cells slots : Nat} (h : (A.setFrames F).sameButNew B locs cells slots) : A.sameButNew B locs cells slots := by
  obtain ⟨h1, h2⟩ := h
  rw [State.setFrames_setFrames] at h1
  exact ⟨h1, h2⟩
/-- the method that stands in T has begun in T -/
theorem h_stand (X : Stand p l e R s m args below meth c T locs cells slots) {R2 : Room} (h1 : R2.frames ≤ R.frames) (h2 : R2.locals ≤ R.locals) (h3 : cells + R2.cells ≤ R.cells) (h4 : slots + R2.slots ≤ R.slots) : Stand p l e R2 (T.setFrames (.invoking m args :: below)) m args below meth c T [] 0 0 := by
  obtain ⟨g0, hg0⟩ := Option.isSome_iff_exists.mp X.here.top
  obtain ⟨rr, hrr⟩ := State.topJava?_eq_some.mp hg0
  have hcur : T.cur < T.threads.size := State.cur_lt_of_frames hrr
  have hF : (T.setFrames (.invoking m args :: below)).frames = .invoking m args :: below := State.frames_setFrames _ hcur
  have hm : (T.setFrames (.invoking m args :: below)).vm.method? m = some meth := X.method'
  have hroom : (T.setFrames (.invoking m args :: below)).hasRoom e.platform R2 = true := by
    obtain ⟨r1, r2, r3, r4⟩ := State.hasRoom_stack X.room
    have r5 := State.hasRoom_real X.room
    have h := X.room
    simp only [State.hasRoom, Bool.and_eq_true, decide_eq_true_eq] at h
    rw [State.localsInUse_invoking X.frames X.method X.code] at r3 r4 r5
    rw [X.frames, List.length_cons] at r1 r2
    have hU : (T.setFrames (.invoking m args :: below)).localsInUse = stackWeight below + vmFrameWords + (c.maxLocals + 11) := by
      rw [State.localsInUse_invoking hF (meth := meth) (c := c) hm X.code]
    have hlim := X.limits
    have hby := X.bytes
    simp only [State.hasRoom, Bool.and_eq_true, decide_eq_true_eq, hF, hU, List.length_cons, State.stackLimits_setFrames, State.stackBytes_setFrames, hlim, hby]
    have hh := X.heapSize
    have hu := X.used
    refine ⟨⟨⟨⟨by omega, by omega, by omega, by omega, by omega, h.1.1.1.2.2.2.2.2⟩, ?_⟩, ?_⟩, X.book⟩
    · have := h.1.1.2
      show T.heap.size + R2.cells ≤ _
      omega
    · have := h.1.2
      show T.slotsUsed + R2.slots ≤ _
      omega
  have hal := X.warmed.alike
  have hmeth : ∀ mm : MethodId, T.vm.method? mm = s.vm.method? mm := fun mm => hal.method? mm
  have hcode : ∀ mm : MethodId, (T.setFrames (.invoking m args :: below)).code? mm = s.code? mm := fun mm => by
    rw [State.code?_eq, State.code?_eq]
    show (T.vm.method? mm).bind _ = _
    rw [hmeth]
  have hhears : (T.setFrames (.invoking m args :: below)).hears m below = true := by
    have h := X.hears
    have hmeth2 : ∀ mm : MethodId, (T.setFrames (.invoking m args :: below)).vm.method? mm = s.vm.method? mm := hmeth
    cases hb : below with
    | nil => rw [hb] at h; simp only [State.hears] at h ⊢; rw [← hb, hmeth2]; exact h
    | cons f r =>
      rw [hb] at h
      cases f <;> simp only [State.hears] at h ⊢ <;> first | (rw [← hb, hcode]; exact h) | (rw [← hb, hmeth2]; exact h) | exact h
  obtain ⟨t, ht, -⟩ := State.frames_cons hrr
  have hback : T = (T.setFrames (.invoking m args :: below)).setFrames T.frames := by rw [State.setFrames_setFrames, State.setFrames_self ht]
  obtain ⟨t2, ht2, -⟩ := State.frames_cons hF
  refine ⟨X.admits, X.cas, X.clock, hF, hroom, hhears, hm, X.code, X.here, X.tail, State.WarmedH.refl _, by rw [State.stackLimits_setFrames], by rw [State.stackBytes_setFrames], ?_⟩
  have hs := (State.sameButNew.refl (T.setFrames (.invoking m args :: below)) ht2).setFrames T.frames (State.cur_lt_of_frames hF)
  rw [← hback] at hs
  exact hs
end HB
theorem h_drop {s s' : State} {L : List Loc} {k n : Nat} (h : s.sameButNew s' L k n) (hL : ∀ q ∈ L, s.heap.size ≤ q.base) : s.sameButNew s' [] k n := by
  obtain ⟨h1, h2, h3, h4, h5, h6⟩ := h
  refine ⟨h1, h2, h3, h4, h5, fun a c hc => ?_⟩
  obtain ⟨c', e1, e2, e3, e4⟩ := h6 a c hc
  refine ⟨c', e1, e2, e3, fun i _ => e4 i (fun hm => ?_)⟩
  have := hL _ hm
  have h9 : a < s.heap.size := (Array.getElem?_eq_some_iff.mp hc).1
  exact absurd this (Nat.not_le.mpr h9)
/-- the law's end: it gives true, and nothing old has changed -/
def hZ (below : List Frame) (s : State) (mc ms : Nat) : State → Prop := fun t => ∃ o, t.status = .running ∧ Ended t below o ∧ o = .returned (some (.int 1)) ∧ s.WarmedH t.vm ∧ s.sameButNew ({ t with vm := s.vm } : State) [] mc ms
/-- the rest of the law by the small machine, over a start of its own -/
theorem h_base {E3 : gEn} {p : Program} {e : Env} {R : Room} {s : State} {m : MethodId} {args : Array Value} {below : List Frame} {meth : Method} {cc : Code} {H : Heap} {locs : List Loc} {c w pc mc ms : Nat} {LS : Array Slot} {ad : gR → Nat} {ls : List (Nat × gV)} {st : List gV} {I : gI} {J : gJ} {B : gB}
    (hx : p.tables.exec = Jvm.exec) (hb9 : cc.code = cL_law) (hr9 : meth.sig.returnType = hr 313) (hm9 : cc.maxLocals = hml 313) (hown : s.vm.findClass "ToeplitzLabLaw" = some m.cls) (hts : ∀ w ∈ gBig, w.before args s = true) (hlk : meth.locks = false) (hT : cc.exceptionTable.toList = tableOf (hht 313))
    (hE : gEv E3 s H) (hR : gRep E3 ad I J B H) (hl : lv_has LS (hml 313) (ls.map (gcp ad))) (hvl : ∀ q ∈ ls, gVv B q.2) (hvs : ∀ v ∈ st, gVv B v) (h0 : gB0 E3 = s.heap.size) (hlocs : ∀ q ∈ locs, s.heap.size ≤ q.base)
    (hG : gG E3 313 pc ls st I J B 0 0 (fun v _ _ _ => v = .inl (.int (gi 1))) (fun _ _ _ _ => False))
    (r1 : hfr 313 ≤ R.frames) (r2 : hlo 313 ≤ R.locals) (r3 : c + hmc 313 ≤ R.cells) (r4 : w + hms 313 ≤ R.slots) (r5 : c + hmc 313 ≤ mc) (r6 : w + hms 313 ≤ ms) :
    W p (gl E3) e R s m args below meth cc H locs c w (hZ below s mc ms) (F0 m pc LS (st.map (gcv ad))) := by
  intro T hTT X
  have X2 := h_stand (R2 := hrm 313) X r1 r2 r3 r4
  have hW := X.warmed
  have hE2 : gEv E3 (T.setFrames (.invoking m args :: below)) H := hE.to (U := T.setFrames (.invoking m args :: below)) hW (Nat.le_refl _) (fun _ _ _ => rfl)
  have hts2 : ∀ w ∈ gBig, w.before args (T.setFrames (.invoking m args :: below)) = true := fun w hw => word_at (U := T.setFrames (.invoking m args :: below)) hW (gBig_good hw) (hts w hw)
  have hown2 : (T.setFrames (.invoking m args :: below)).vm.findClass "ToeplitzLabLaw" = some m.cls := (hW.alike.findClass _ _).trans hown
  have hH2 : (T.setFrames (.invoking m args :: below)).heap = H := hTT
  obtain ⟨t, stp, o, h1, h2, h3⟩ := hG (Nat.zero_le _) (Nat.zero_le _) p e (T.setFrames (.invoking m args :: below)) m args below meth cc ad B ⟨hx, hb9, hr9, hm9, hown2, hts2, hlk, by rw [hH2]; exact hE2⟩ hT H [] LS ad ⟨hR, by rw [hH2]; exact va_S.rf, hl, fun _ _ => rfl, fun _ h => h, hvl, hvs⟩ T hTT X2
  refine ⟨t, stp, o, h1, h2, ?_⟩
  rcases h3 with ⟨⟨⟨v, I, J, B, ad, ho, hq, -⟩, -⟩, L, ⟨hv, hW2, hs⟩, hL⟩ | ⟨q, -, En, ce, L, ⟨⟨k0, I, J, B, ad, -, hX, -⟩, -⟩, -⟩
  · subst hq
    have hW3 : T.WarmedH t.vm := hW2
    have hs2 : T.sameButNew ({ t with vm := T.vm } : State) L (hmc 313) (hms 313) := h_off hs
    have hs3 : s.sameButNew ({ t with vm := s.vm } : State) (locs ++ L) (c + hmc 313) (w + hms 313) := X.same.trans (hs2.setVm s.vm)
    have hs4 := h_drop hs3 (fun q hq => by
      rcases List.mem_append.mp hq with h | h
      · exact hlocs q h
      · have := (hL q h).1
        rw [h0] at this
        exact this)
    exact ⟨ho, State.WarmedH.trans hW hW3, hs4.mono r5 r6⟩
  · exact hX.elim
