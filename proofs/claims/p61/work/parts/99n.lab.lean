/-! ===== the world of the law's system while it is made (by wip/p61/p99n.py) ===== -/
theorem kw_153 : (Cond.methodLink "ToeplitzLabLaw$Lab" 54 yJ4_append_15ec4) ∈ gBig := gBig_of (gpc3 (List.mem_of_getElem? (i := 40) rfl)) rfl
theorem kw_154 : (Cond.methodLink "ToeplitzLabLaw$Lab" 59 yX9_number) ∈ gBig := gBig_of (gpc3 (List.mem_of_getElem? (i := 42) rfl)) rfl
theorem kw_155 : (Cond.static yX9_number) ∈ gBig := gBig_of (gpc3 (List.mem_of_getElem? (i := 43) rfl)) rfl
theorem kw_156 : (Cond.initialized "ToeplitzLabLaw$Lab") ∈ gBig := gBig_of (gpc1 (List.mem_of_getElem? (i := 2) rfl)) rfl
theorem kw_157 : (Cond.code yX9_number cX9_number 2 (some (.object "java/lang/StringBuilder"))) ∈ gBig := gBig_of (gpc3 (List.mem_of_getElem? (i := 44) rfl)) rfl
theorem kw_158 : (Cond.methodLink "ToeplitzLabLaw$Lab" 30 yX8_next) ∈ gBig := gBig_of (gpc3 (List.mem_of_getElem? (i := 11) rfl)) rfl
theorem kw_159 : (Cond.instanceMethod yX8_next) ∈ gBig := gBig_of (gpc2 (List.mem_of_getElem? (i := 83) rfl)) rfl
theorem kw_160 : (Cond.selects "ToeplitzLabLaw$Draws" yX8_next yX8_next) ∈ gBig := gBig_of (gpc2 (List.mem_of_getElem? (i := 84) rfl)) rfl
theorem kw_161 : (Cond.initialized "ToeplitzLabLaw$Draws") ∈ gBig := gBig_of (gpc1 (List.mem_of_getElem? (i := 1) rfl)) rfl
theorem kw_162 : (Cond.code yX8_next cX8_next 4 (some .int)) ∈ gBig := gBig_of (gpc2 (List.mem_of_getElem? (i := 85) rfl)) rfl
/-- the law's system while it is made: the draws at 0, itself at 1, its builder at 2, its arrays behind -/
def Lw (E : gEn) (ws : va_W) (d a lb : Nat) (fs : List Value) (tb : Nat) (t : List Int) (ar : List (Nat × Nat × Nat × (Nat → Int32))) : Prop :=
  ws[0]? = some (d, kD E a) ∧ ws[1]? = some (lb, .inr (9, fs)) ∧ (∃ q1 b m f, 3 ≤ q1 ∧ (∀ x ∈ ar, x.1 ≠ q1) ∧ Sb E ws 2 q1 tb 0 t b m f) ∧ ∀ x ∈ ar, 3 ≤ x.1 ∧ ws[x.1]? = some (x.2.1, .inl (gca E 0, x.2.2.1, .inl x.2.2.2))
section LW
variable {E : gEn} {ws : va_W} {d a lb tb : Nat} {fs : List Value} {t : List Int} {ar : List (Nat × Nat × Nat × (Nat → Int32))}
theorem Sb.fr {q0 q1 q b m : Nat} {z : Int32} {f : Nat → Int32} {ws1 : va_W} (h : Sb E ws q0 q1 q z t b m f) (h0 : ws1[q0]? = ws[q0]?) (h1 : ws1[q1]? = ws[q1]?) : Sb E ws1 q0 q1 q z t b m f := ⟨h0.trans h.1, h1.trans h.2.1, h.2.2⟩
theorem Lw.dw (h : Lw E ws d a lb fs tb t ar) (a' : Nat) : Lw E (ws.set 0 (d, kD E a')) d a' lb fs tb t ar := by
  obtain ⟨h0, h1, ⟨q1, b, m, f, g1, g2, g3⟩, h3⟩ := h
  have hlt := (List.getElem?_eq_some_iff.mp h0).1
  refine ⟨by rw [List.getElem?_set_self hlt], by rw [List.getElem?_set_ne (by decide)]; exact h1, ⟨q1, b, m, f, g1, g2, g3.fr (List.getElem?_set_ne (by decide)) (List.getElem?_set_ne (by omega))⟩, fun x hx => ?_⟩
  obtain ⟨g4, g5⟩ := h3 x hx
  exact ⟨g4, by rw [List.getElem?_set_ne (by omega)]; exact g5⟩
theorem Lw.fw (h : Lw E ws d a lb fs tb t ar) (fs' : List Value) : Lw E (ws.set 1 (lb, .inr (9, fs'))) d a lb fs' tb t ar := by
  obtain ⟨h0, h1, ⟨q1, b, m, f, g1, g2, g3⟩, h3⟩ := h
  have hlt := (List.getElem?_eq_some_iff.mp h1).1
  refine ⟨by rw [List.getElem?_set_ne (by decide)]; exact h0, by rw [List.getElem?_set_self hlt], ⟨q1, b, m, f, g1, g2, g3.fr (List.getElem?_set_ne (by decide)) (List.getElem?_set_ne (by omega))⟩, fun x hx => ?_⟩
  obtain ⟨g4, g5⟩ := h3 x hx
  exact ⟨g4, by rw [List.getElem?_set_ne (by omega)]; exact g5⟩
theorem Lw.len (h : Lw E ws d a lb fs tb t ar) : 3 ≤ ws.length := (List.getElem?_eq_some_iff.mp h.2.2.1.choose_spec.choose_spec.choose_spec.choose_spec.2.2.1).1
theorem Lw.new (h : Lw E ws d a lb fs tb t ar) (x n : Nat) (f : Nat → Int32) : Lw E (ws ++ [(x, .inl (gca E 0, n, .inl f))]) d a lb fs tb t (ar ++ [(ws.length, x, n, f)]) := by
  have hlen := h.len
  obtain ⟨h0, h1, ⟨q1, b, m, f9, g1, g2, g3⟩, h3⟩ := h
  refine ⟨by rw [List.getElem?_append_left (by omega)]; exact h0, by rw [List.getElem?_append_left (by omega)]; exact h1, ⟨q1, b, m, f9, g1, fun y hy => ?_, g3.app _⟩, fun y hy => ?_⟩
  · rcases List.mem_append.mp hy with hy | hy
    · exact g2 y hy
    · rw [List.mem_singleton.mp hy]
      have := (List.getElem?_eq_some_iff.mp g3.2.1).1
      show ws.length ≠ q1
      omega
  · rcases List.mem_append.mp hy with hy | hy
    · obtain ⟨g4, g5⟩ := h3 y hy
      exact ⟨g4, by rw [List.getElem?_append_left (List.getElem?_eq_some_iff.mp g5).1]; exact g5⟩
    · rw [List.mem_singleton.mp hy]
      refine ⟨hlen, ?_⟩
      rw [List.getElem?_append_right (Nat.le_refl _), Nat.sub_self]
      rfl
theorem Lw.newE (h : Lw E ws d a lb fs tb t ar) (x n : Nat) (f : Nat → Int32) : ∃ r, (∀ y ∈ ar, y.1 ≠ r) ∧ Lw E (ws ++ [(x, .inl (gca E 0, n, .inl f))]) d a lb fs tb t (ar ++ [(r, x, n, f)]) :=
  ⟨ws.length, fun y hy => by
    have := (List.getElem?_eq_some_iff.mp (h.2.2.2 y hy).2).1
    omega, h.new x n f⟩
theorem Lw.ia {l1 l2 : List (Nat × Nat × Nat × (Nat → Int32))} {x : Nat × Nat × Nat × (Nat → Int32)} (h : Lw E ws d a lb fs tb t (l1 ++ x :: l2)) (hn : ∀ y ∈ l1 ++ l2, y.1 ≠ x.1) (f : Nat → Int32) : Lw E (ws.set x.1 (x.2.1, .inl (gca E 0, x.2.2.1, .inl f))) d a lb fs tb t (l1 ++ (x.1, x.2.1, x.2.2.1, f) :: l2) := by
  obtain ⟨h0, h1, ⟨q1, b, m, f9, g1, g2, g3⟩, h3⟩ := h
  obtain ⟨k1, k2⟩ := h3 x (by simp)
  have hlt := (List.getElem?_eq_some_iff.mp k2).1
  have hq := g2 x (by simp)
  refine ⟨by rw [List.getElem?_set_ne (by omega)]; exact h0, by rw [List.getElem?_set_ne (by omega)]; exact h1, ⟨q1, b, m, f9, g1, fun y hy => ?_, g3.fr (List.getElem?_set_ne (by omega)) (List.getElem?_set_ne hq)⟩, fun y hy => ?_⟩
  · rcases List.mem_append.mp hy with hy | hy
    · exact g2 y (List.mem_append_left _ hy)
    · rcases List.mem_cons.mp hy with rfl | hy
      · exact hq
      · exact g2 y (List.mem_append_right _ (List.mem_cons_of_mem _ hy))
  · have key : ∀ z ∈ l1 ++ l2, z ∈ l1 ++ x :: l2 → 3 ≤ z.1 ∧ (ws.set x.1 (x.2.1, (.inl (gca E 0, x.2.2.1, .inl f) : va_E)))[z.1]? = some (z.2.1, .inl (gca E 0, z.2.2.1, .inl z.2.2.2)) := fun z hz hz2 => by
      obtain ⟨g4, g5⟩ := h3 z hz2
      exact ⟨g4, by rw [List.getElem?_set_ne (Ne.symm (hn z hz))]; exact g5⟩
    rcases List.mem_append.mp hy with hy | hy
    · exact key y (List.mem_append_left _ hy) (List.mem_append_left _ hy)
    · rcases List.mem_cons.mp hy with rfl | hy
      · exact ⟨k1, by rw [List.getElem?_set_self hlt]⟩
      · exact key y (List.mem_append_right _ hy) (List.mem_append_right _ (List.mem_cons_of_mem _ hy))
theorem Lw.ap {q1 q2 b2 m2 : Nat} {f2 : Nat → Int32} {t2 : List Int} {ws1 : va_W} (h : Lw E ws d a lb fs tb t ar) (g1 : 3 ≤ q1) (g2 : ∀ x ∈ ar, x.1 ≠ q1) (hf : kFr ws ws1 2 q1) (hq : q2 = q1 ∨ ws.length ≤ q2) (h2 : Sb E ws1 2 q2 tb 0 t2 b2 m2 f2) : Lw E ws1 d a lb fs tb t2 ar := by
  have hlen := h.len
  obtain ⟨h0, h1, -, h3⟩ := h
  refine ⟨(hf.2 0 (by omega) (by decide) (by omega)).trans h0, (hf.2 1 (by omega) (by decide) (by omega)).trans h1, ⟨q2, b2, m2, f2, by omega, fun x hx => ?_, h2⟩, fun x hx => ?_⟩
  · obtain ⟨g4, g5⟩ := h3 x hx
    have := (List.getElem?_eq_some_iff.mp g5).1
    have := g2 x hx
    omega
  · obtain ⟨g4, g5⟩ := h3 x hx
    exact ⟨g4, (hf.2 _ (List.getElem?_eq_some_iff.mp g5).1 (by omega) (g2 x hx)).trans g5⟩
end LW
abbrev kRI : Room := { frames := 9, cells := 120, slots := 76000, locals := 330 }
section LR
variable {E : gEn} {K : kEn} {p : Program} {e : Env} {s : State} {mI : MethodId} {args : Array Value} {below : List Frame} {meth : Method} {cc : Code} {H : Heap} {locs : List Loc} {c w pc : Nat} {LS : Array Slot} {Qq : State → Prop} {ws : va_W} {d a lb tb : Nat} {fs : List Value} {t : List Int} {ar : List (Nat × Nat × Nat × (Nat → Int32))} {rest : List Value}

/-- append a text -/
theorem lw_S {k : Nat} (hC : kC E K yX9_init cX9_init 4 none p s mI args meth cc) (hLw : Lw E ws d a lb fs tb t ar) (ht : t.length ≤ 340) (hk : k < 5) (hd : decode cX9_init pc = .ok (.invokevirtual 54, 3)) (hc : c + 1 ≤ 120) (hw : w + 700 ≤ 76000) (hsm : (rest.map fun v => v.category).sum ≤ 8) (hsz : LS.size = 4) (hP : va_P (gD E) vwCl ws H) (hD : va_D (gA E) ws) (hS : va_S (gA E) s.heap H locs)
    (kk : ∀ (ws1 : va_W) (H1 : Heap) (locs1 : List Loc), Lw E ws1 d a lb fs tb (t ++ kCh k) ar → va_P (gD E) vwCl ws1 H1 → va_D (gA E) ws1 → va_S (gA E) s.heap H1 locs1 → W p (gl E) e kRI s mI args below meth cc H1 locs1 (c + 1) (w + 700) Qq (F0 mI (pc + 3) LS (.ref tb :: rest))) : W p (gl E) e kRI s mI args below meth cc H locs c w Qq (F0 mI pc LS (.ref (K.1 k) :: .ref tb :: rest)) := by
  obtain ⟨hx, hb, hr, hml, hown, htk, hlk, hF, hnm⟩ := hC
  have hK := hF.1.1
  obtain ⟨q1, b, m, f, g1, g2, hSb⟩ := hLw.2.2.1
  refine k_callV (As := [.ref (K.1 k)]) (rest := rest) ⟨hx, hb, hml, hown, htk, hF⟩ hd ⟨kw_153, kw_102, kw_103, kw_92, kw_104⟩ (np := 1) (by decide +kernel) rfl ⟨Nat.le_of_ble_eq_true rfl, Nat.le_of_ble_eq_true rfl⟩ ⟨rfl, rfl⟩ (va_recv hK hP (ci := 11) rfl hSb.1) hsz hsm ⟨hc, hw⟩ hP hD hS (k_sbS hSb ht hk) (fun v ws1 H locs hv hP hD hS => ?_)
  obtain ⟨rfl, q2, b2, m2, f2, hS2, hF2, hq2⟩ := hv
  exact kk ws1 H locs (hLw.ap g1 g2 hF2 hq2 hS2) hP hD hS

/-- append a number -/
theorem lw_I {x : Nat} (hC : kC E K yX9_init cX9_init 4 none p s mI args meth cc) (hLw : Lw E ws d a lb fs tb t ar) (ht : t.length ≤ 348) (hx9 : x < 100) (hd : decode cX9_init pc = .ok (.invokevirtual 48, 3)) (hc : c + 1 ≤ 120) (hw : w + 700 ≤ 76000) (hsm : (rest.map fun v => v.category).sum ≤ 8) (hsz : LS.size = 4) (hP : va_P (gD E) vwCl ws H) (hD : va_D (gA E) ws) (hS : va_S (gA E) s.heap H locs)
    (kk : ∀ (ws1 : va_W) (H1 : Heap) (locs1 : List Loc), Lw E ws1 d a lb fs tb (t ++ dgL x) ar → va_P (gD E) vwCl ws1 H1 → va_D (gA E) ws1 → va_S (gA E) s.heap H1 locs1 → W p (gl E) e kRI s mI args below meth cc H1 locs1 (c + 1) (w + 700) Qq (F0 mI (pc + 3) LS (.ref tb :: rest))) : W p (gl E) e kRI s mI args below meth cc H locs c w Qq (F0 mI pc LS (.int (gi (x : Int)) :: .ref tb :: rest)) := by
  obtain ⟨hx, hb, hr, hml, hown, htk, hlk, hF, hnm⟩ := hC
  have hK := hF.1.1
  obtain ⟨q1, b, m, f, g1, g2, hSb⟩ := hLw.2.2.1
  refine k_callV (As := [.int (gi (x : Int))]) (rest := rest) ⟨hx, hb, hml, hown, htk, hF⟩ hd ⟨kw_89, kw_90, kw_91, kw_92, kw_93⟩ (np := 1) (by decide +kernel) rfl ⟨Nat.le_of_ble_eq_true rfl, Nat.le_of_ble_eq_true rfl⟩ ⟨rfl, rfl⟩ (va_recv hK hP (ci := 11) rfl hSb.1) hsz hsm ⟨hc, hw⟩ hP hD hS (k_sbI hSb ht hx9) (fun v ws1 H locs hv hP hD hS => ?_)
  obtain ⟨rfl, q2, b2, m2, f2, hS2, hF2, hq2⟩ := hv
  exact kk ws1 H locs (hLw.ap g1 g2 hF2 hq2 hS2) hP hD hS

/-- append a byte -/
theorem lw_C {x : Nat} (hC : kC E K yX9_init cX9_init 4 none p s mI args meth cc) (hLw : Lw E ws d a lb fs tb t ar) (ht : t.length ≤ 349) (hx9 : x < 128) (hd : decode cX9_init pc = .ok (.invokevirtual 63, 3)) (hc : c + 1 ≤ 120) (hw : w + 700 ≤ 76000) (hsm : (rest.map fun v => v.category).sum ≤ 8) (hsz : LS.size = 4) (hP : va_P (gD E) vwCl ws H) (hD : va_D (gA E) ws) (hS : va_S (gA E) s.heap H locs)
    (kk : ∀ (ws1 : va_W) (H1 : Heap) (locs1 : List Loc), Lw E ws1 d a lb fs tb (t ++ [(x : Int)]) ar → va_P (gD E) vwCl ws1 H1 → va_D (gA E) ws1 → va_S (gA E) s.heap H1 locs1 → W p (gl E) e kRI s mI args below meth cc H1 locs1 (c + 1) (w + 700) Qq (F0 mI (pc + 3) LS (.ref tb :: rest))) : W p (gl E) e kRI s mI args below meth cc H locs c w Qq (F0 mI pc LS (.int (gi (x : Int)) :: .ref tb :: rest)) := by
  obtain ⟨hx, hb, hr, hml, hown, htk, hlk, hF, hnm⟩ := hC
  have hK := hF.1.1
  obtain ⟨q1, b, m, f, g1, g2, hSb⟩ := hLw.2.2.1
  refine k_callV (As := [.int (gi (x : Int))]) (rest := rest) ⟨hx, hb, hml, hown, htk, hF⟩ hd ⟨kw_94, kw_95, kw_96, kw_92, kw_97⟩ (np := 1) (by decide +kernel) rfl ⟨Nat.le_of_ble_eq_true rfl, Nat.le_of_ble_eq_true rfl⟩ ⟨rfl, rfl⟩ (va_recv hK hP (ci := 11) rfl hSb.1) hsz hsm ⟨hc, hw⟩ hP hD hS (k_sbC hSb ht hx9) (fun v ws1 H locs hv hP hD hS => ?_)
  obtain ⟨rfl, q2, b2, m2, f2, hS2, hF2, hq2⟩ := hv
  exact kk ws1 H locs (hLw.ap g1 g2 hF2 hq2 hS2) hP hD hS

/-- append a number with its sign -/
theorem lw_N {v : Int} (hC : kC E K yX9_init cX9_init 4 none p s mI args meth cc) (hLw : Lw E ws d a lb fs tb t ar) (ht : t.length ≤ 340) (hv1 : -9 ≤ v) (hv2 : v ≤ 9) (hd : decode cX9_init pc = .ok (.invokestatic 59, 3)) (hc : c + 2 ≤ 120) (hw : w + 1400 ≤ 76000) (hsm : (rest.map fun v => v.category).sum ≤ 8) (hsz : LS.size = 4) (hP : va_P (gD E) vwCl ws H) (hD : va_D (gA E) ws) (hS : va_S (gA E) s.heap H locs)
    (kk : ∀ (ws1 : va_W) (H1 : Heap) (locs1 : List Loc), Lw E ws1 d a lb fs tb (t ++ sgL v) ar → va_P (gD E) vwCl ws1 H1 → va_D (gA E) ws1 → va_S (gA E) s.heap H1 locs1 → W p (gl E) e kRI s mI args below meth cc H1 locs1 (c + 2) (w + 1400) Qq (F0 mI (pc + 3) LS (.ref tb :: rest))) : W p (gl E) e kRI s mI args below meth cc H locs c w Qq (F0 mI pc LS (.int (gi v) :: .ref tb :: rest)) := by
  obtain ⟨hx, hb, hr, hml, hown, htk, hlk, hF, hnm⟩ := hC
  have hK := hF.1.1
  obtain ⟨q1, b, m, f, g1, g2, hSb⟩ := hLw.2.2.1
  refine k_callS (As := [.ref tb, .int (gi v)]) (rest := rest) ⟨hx, hb, hml, hown, htk, hF⟩ hd ⟨kw_154, kw_155, kw_156, kw_157⟩ (np := 2) (by decide +kernel) rfl ⟨Nat.le_of_ble_eq_true rfl, Nat.le_of_ble_eq_true rfl⟩ ⟨rfl, rfl⟩ hsz hsm ⟨hc, hw⟩ hP hD hS (k_number hSb ht hv1 hv2) (fun v ws1 H locs hv hP hD hS => ?_)
  obtain ⟨rfl, q2, b2, m2, f2, hS2, hF2, hq2⟩ := hv
  exact kk ws1 H locs (hLw.ap g1 g2 hF2 hq2 hS2) hP hD hS

/-- a draw -/
theorem lw_D {lo hi : Int} (hC : kC E K yX9_init cX9_init 4 none p s mI args meth cc) (hLw : Lw E ws d a lb fs tb t ar) (ha : a ≤ 100) (hlo : -1000 ≤ lo) (hlh : lo ≤ hi) (hhi : hi ≤ 1000) (hgl : gL E ≤ 100000) (hd : decode cX9_init pc = .ok (.invokevirtual 30, 3)) (hc : c ≤ 120) (hw : w ≤ 76000) (hsm : (rest.map fun v => v.category).sum ≤ 8) (hsz : LS.size = 4) (hP : va_P (gD E) vwCl ws H) (hD : va_D (gA E) ws) (hS : va_S (gA E) s.heap H locs)
    (kk : ∀ (r : Int) (ws1 : va_W) (H1 : Heap) (locs1 : List Loc), lo ≤ r → r ≤ hi → Lw E ws1 d (a + 1) lb fs tb t ar → va_P (gD E) vwCl ws1 H1 → va_D (gA E) ws1 → va_S (gA E) s.heap H1 locs1 → W p (gl E) e kRI s mI args below meth cc H1 locs1 c w Qq (F0 mI (pc + 3) LS (.int (gi r) :: rest))) : W p (gl E) e kRI s mI args below meth cc H locs c w Qq (F0 mI pc LS (.int (gi hi) :: .int (gi lo) :: .ref d :: rest)) := by
  obtain ⟨hx, hb, hr, hml, hown, htk, hlk, hF, hnm⟩ := hC
  have hK := hF.1.1
  have h0 := hLw.1
  refine k_callV (As := [.int (gi lo), .int (gi hi)]) (rest := rest) ⟨hx, hb, hml, hown, htk, hF⟩ hd ⟨kw_158, kw_159, kw_160, kw_161, kw_162⟩ (np := 2) (by decide +kernel) rfl ⟨Nat.le_of_ble_eq_true rfl, Nat.le_of_ble_eq_true rfl⟩ ⟨rfl, rfl⟩ (va_recv hK hP (ci := 8) rfl h0) hsz hsm ⟨(by show c + 0 ≤ 120; omega), (by show w + 0 ≤ 76000; omega)⟩ hP hD hS (k_next h0 (by omega) hlo hlh hhi hgl) (fun v ws1 H locs hv hP hD hS => ?_)
  obtain ⟨r, r1, r2, rfl, e9⟩ := hv
  exact kk r ws1 H locs r1 r2 (by rw [e9]; exact hLw.dw (a + 1)) hP hD hS
end LR
