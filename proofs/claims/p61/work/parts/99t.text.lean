/-! ===== from 94 to 102 (by wip/p61/p99t.py) ===== -/
theorem kw_196 : (Cond.methodLink "ToeplitzLabLaw" 272 yJ4_toString_0e30d) ∈ gBig := gBig_of (gpc6 (List.mem_of_getElem? (i := 138) rfl)) rfl
theorem kw_197 : (Cond.instanceMethod yJ4_toString_0e30d) ∈ gBig := gBig_of (gpc6 (List.mem_of_getElem? (i := 139) rfl)) rfl
theorem kw_198 : (Cond.selects "java/lang/StringBuilder" yJ4_toString_0e30d yJ4_toString_0e30d) ∈ gBig := gBig_of (gpc6 (List.mem_of_getElem? (i := 140) rfl)) rfl
theorem kw_199 : (Cond.code yJ4_toString_0e30d cJ4_toString_0e30d 1 (some (.object "java/lang/String"))) ∈ gBig := gBig_of (gpc6 (List.mem_of_getElem? (i := 141) rfl)) rfl
/-- two worlds side by side -/
theorem h_wP {D : va_G} {cl : List vw_C} {w1 w2 : va_W} {H : Heap} (h1 : va_P D cl w1 H) (h2 : va_P D cl w2 H) : va_P D cl (w1 ++ w2) H := fun k q hk => by
  by_cases h : k < w1.length
  · rw [List.getElem?_append_left h] at hk
    exact h1 k q hk
  · rw [List.getElem?_append_right (by omega)] at hk
    exact h2 _ q hk
section HT
variable {E : gEn} {K : kEn} {p : Program} {e : Env} {R : Room} {s : State} {mI : MethodId} {args : Array Value} {below : List Frame} {meth : Method} {cc : Code} {H : Heap} {locs : List Loc} {c w : Nat} {LS : Array Slot} {Qq : State → Prop} {I : gI} {J : gJ} {B : gB} {ad : gR → Nat}
/-- from 94 to 102: the text -/
theorem h_94 {E1 : gEn} {tb ba m9 d lb o : Nat} {t : List Int} {f : Nat → Int32} (hx : p.tables.exec = Jvm.exec) (hb : cc.code = cL_law) (hml : cc.maxLocals = 5) (hown : s.vm.findClass "ToeplitzLabLaw" = some mI.cls) (htk : ∀ w ∈ kBig, w.before args s = true) (hF : kF E K s s.heap)
    (hca : gca E1 = gca E) (hgd : gD E1 = gD E) (hga : ∀ q, gA E1 q → gA E q) (hR : gRep E1 ad I J B H) (hB : va_P (gD E) vwCl [(tb, kB ba 0 t.length), (ba, .inl (gca E 3, m9, .inl f))] H) (hfit : ∀ i, fits .byte (.int (f i)) = true) (htm : t.length ≤ m9) (hm9 : m9 ≤ 30000) (hfx : ∀ i, i < t.length → f i = gi (t.getD i 0)) (ht : t.length ≤ 400)
    (hg1 : gA E tb) (hg2 : gA E ba) (hn1 : ¬ gA E1 tb) (hn2 : ¬ gA E1 ba) (hnn : tb ≠ ba) (hS : va_S (gA E) s.heap H locs) (hl : lv_has LS 5 [(1, .ref d), (2, .ref lb), (3, .ref o)]) (hlb : ad (49, 0, 0) = lb) (hg49 : (49, 0, 0) ∈ gids B) (htb : gax E1 (1, 2, 0) = tb)
    (r1 : 8 ≤ R.frames) (r2 : 250 ≤ R.locals) (r3 : c + 2 ≤ R.cells) (r4 : w + 404 ≤ R.slots)
    (kk : ∀ (s0 a2 : Nat) (f2 : Nat → Int32) (H1 : Heap) (locs1 : List Loc), (∀ i, i < t.length → f2 i = gi (t.getD i 0)) → va_P (gD E) vwCl (([(tb, kB ba 0 t.length), (ba, .inl (gca E 3, m9, .inl f))] ++ gws E1 ad I J B) ++ [(s0, .inr (10, [.ref a2, .int 0, .int 0, .int 0])), (a2, .inl (gca E 3, t.length, .inl f2))]) H1 → va_D (gA E) (([(tb, kB ba 0 t.length), (ba, .inl (gca E 3, m9, .inl f))] ++ gws E1 ad I J B) ++ [(s0, .inr (10, [.ref a2, .int 0, .int 0, .int 0])), (a2, .inl (gca E 3, t.length, .inl f2))]) → va_S (gA E) s.heap H1 locs1 → W p (gl E) e R s mI args below meth cc H1 locs1 (c + 2) (w + 404) Qq (F0 mI 102 LS [.ref s0, .ref o])) :
    W p (gl E) e R s mI args below meth cc H locs c w Qq (F0 mI 94 LS []) := by
  have hts : ∀ w ∈ gBig, w.before args s = true := fun w h => htk w (kBig_g h)
  have hE := hF.1
  have hK := hE.1
  obtain ⟨hR1, hR2, hR3, hR4⟩ := hR
  rw [hgd] at hR1
  have hP : va_P (gD E) vwCl ([(tb, kB ba 0 t.length), (ba, .inl (gca E 3, m9, .inl f))] ++ gws E1 ad I J B) H := h_wP hB hR1
  have hD : va_D (gA E) ([(tb, kB ba 0 t.length), (ba, .inl (gca E 3, m9, .inl f))] ++ gws E1 ad I J B) := by
    have hne : ∀ (k : Nat) (q : Nat × va_E), (gws E1 ad I J B)[k]? = some q → q.1 ≠ tb ∧ q.1 ≠ ba := fun k q hk => ⟨fun z => hn1 (z ▸ hR2.2 k q hk), fun z => hn2 (z ▸ hR2.2 k q hk)⟩
    refine ⟨fun i j p q hi hj hpq => ?_, fun k q hk => ?_⟩
    · match i, j with
      | 0, 0 => rfl
      | 1, 1 => rfl
      | 0, 1 => cases hi; cases hj; exact absurd hpq hnn
      | 1, 0 => cases hi; cases hj; exact absurd hpq.symm hnn
      | 0, j + 2 => cases hi; exact absurd hpq.symm (hne j q hj).1
      | 1, j + 2 => cases hi; exact absurd hpq.symm (hne j q hj).2
      | i + 2, 0 => cases hj; exact absurd hpq (hne i p hi).1
      | i + 2, 1 => cases hj; exact absurd hpq (hne i p hi).2
      | i + 2, j + 2 => rw [hR2.1 i j p q hi hj hpq]
    · match k with
      | 0 => cases hk; exact hg1
      | 1 => cases hk; exact hg2
      | k + 2 => exact hga _ (hR2.2 k q hk)
  have hSb : Sb E ([(tb, kB ba 0 t.length), (ba, .inl (gca E 3, m9, .inl f))] ++ gws E1 ad I J B) 0 1 tb 0 t ba m9 f := ⟨rfl, rfl, hfit, htm, hm9, hfx⟩
  obtain ⟨q0, -, hq0⟩ := gws_get (E := E1) (ad := ad) (I := I) (J := J) hg49
  rw [genc_obj (show gobj (49, 0, 0).1 = some (9, [(101, 2), (150, 0), (151, 0), (152, 0), (0, 0), (0, 0)]) from rfl), hlb] at hq0
  have hq2 : ([(tb, kB ba 0 t.length), (ba, (.inl (gca E 3, m9, .inl f) : va_E))] ++ gws E1 ad I J B)[q0 + 2]? = some (lb, .inr (9, gfvals ad I J 49 0 [(101, 2), (150, 0), (151, 0), (152, 0), (0, 0), (0, 0)])) := hq0
  have htb2 : ad (1, 2, 0) = tb := (hR3 (1, 2, 0) (by decide)).trans htb
  have hv0 : (gfvals ad I J 49 0 [(101, 2), (150, 0), (151, 0), (152, 0), (0, 0), (0, 0)])[0]? = some (.ref tb) := by rw [← htb2]; rfl
  refine lv_aload_n hx hb (show decode cL_law 94 = .ok (.aload_n 3, 1) by decide +kernel) rfl (lv_at hl 2 rfl) ?_
  refine lv_aload_n hx hb (show decode cL_law 95 = .ok (.aload_n 2, 1) by decide +kernel) rfl (lv_at hl 1 rfl) ?_
  refine va_getN (D := gD E) (ci := 9) (C := RX9) (T := TX9) (N := 6) (ref := "ToeplitzLabLaw$Lab") (host := "ToeplitzLabLaw") hx hb hts (fun w hw => gBig_of (guw_9 w hw) (gug_9 w hw)) hown hK hP (q0 + 2) hq2 rfl 0 (by decide) (va_Nw.use rfl (hE.2.1 _ (List.mem_append_right _ (List.mem_map.mpr ⟨(268, 0), by decide, rfl⟩)))) (fun _ h9 => h9) hv0 (show decode cL_law 96 = .ok (.getfield 268, 3) by decide +kernel) ?_
  refine k_callV (mc := 2) (ms := t.length + 4) (As := []) (rest := [.ref o]) ⟨hx, hb, hml, hown, htk, hF⟩ (show decode cL_law 99 = .ok (.invokevirtual 272, 3) by decide +kernel) ⟨kw_196, kw_197, kw_198, kw_92, kw_199⟩ (np := 0) (by decide +kernel) rfl ⟨by show 7 + 1 ≤ R.frames; omega, by show 8 + (1 + 11) + 230 ≤ R.locals; omega⟩ ⟨rfl, rfl⟩ (va_recv hK hP (ci := 11) rfl hSb.1) hl.1 (Nat.le_of_ble_eq_true rfl) ⟨r3, by omega⟩ hP hD hS (k_toString hSb) (fun v ws1 H locs hv hP hD hS => ?_)
  obtain ⟨s0, a2, f2, rfl, e9, hf2⟩ := hv
  rw [e9] at hP hD
  refine W.widen (k := c + 2) (n := w + 404) (Nat.le_refl _) (by omega) ?_
  exact kk s0 a2 f2 H locs (fun i hi => (hf2 i hi).trans (hfx i hi)) hP hD hS
end HT
