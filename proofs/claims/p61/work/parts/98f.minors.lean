/-! ===== minors, steps, rank, primes: the law's 'minors' ===== -/
theorem getD_app {l1 l2 : List Nat} {j : Nat} (h : j < l1.length) : (l1 ++ l2).getD j 0 = l1.getD j 0 := by
  rw [List.getD_eq_getElem?_getD, List.getD_eq_getElem?_getD, List.getElem?_append_left h]
theorem getD_new {l1 : List Nat} {k : Nat} {l2 : List Nat} : (l1 ++ k :: l2).getD l1.length 0 = k := by
  rw [List.getD_eq_getElem?_getD, List.getElem?_append_right (Nat.le_refl _), Nat.sub_self]
  rfl
theorem ljF_app {l1 l2 : List Nat} : ∀ {k : Nat}, k < l1.length → ljF (l1 ++ l2) k = ljF l1 k
  | 0, _ => rfl
  | k + 1, h => by
    show max (ljF (l1 ++ l2) k) _ = max (ljF l1 k) _
    rw [ljF_app (by omega), getD_app h, getD_app (by omega)]
theorem esP_pre {f : Nat → Int} (hv : Vf f) {k : Nat} : ∀ d, ∃ l, esP f (k + d) = esP f k ++ l
  | 0 => ⟨[], by rw [Nat.add_zero, List.append_nil]⟩
  | d + 1 => by
    obtain ⟨l, hl⟩ := esP_pre hv (k := k) d
    rw [← Nat.add_assoc, esP_s hv]
    by_cases h : detF f (f 1) (k + d) = 0
    · rw [if_pos h]
      exact ⟨l, hl⟩
    · rw [if_neg h, hl]
      exact ⟨l ++ [k + d], by rw [List.append_assoc]⟩
theorem esP_ess {f : Nat → Int} : esP f ((f 0).toNat + 1) = ess f := rfl
theorem esP_one {f : Nat → Int} {k : Nat} : 1 ≤ (esP f (k + 1)).length := (esL_len k).1
theorem esP_le {f : Nat → Int} (hv : Vf f) : ∀ {k : Nat}, ∀ x ∈ esP f k, x < k
  | 0, x, h => by cases h
  | k + 1, x, h => by
    rw [esP_s hv] at h
    split at h
    · have := esP_le hv x h
      omega
    · rcases List.mem_append.mp h with h | h
      · have := esP_le hv x h
        omega
      · rw [List.mem_singleton.mp h]
        omega
/-- the last of them -/
def esE (f : Nat → Int) (k : Nat) : Nat := (esP f k).getD ((esP f k).length - 1) 0
theorem esE_le {f : Nat → Int} (hv : Vf f) {k : Nat} : esE f k ≤ k - 1 := by
  unfold esE
  by_cases h : (esP f k).length = 0
  · rw [List.length_eq_zero_iff.mp h]
    exact Nat.zero_le _
  · have := esP_le hv _ (getD_mem (l := esP f k) (show (esP f k).length - 1 < (esP f k).length by omega))
    omega
theorem esE_new {f : Nat → Int} (hv : Vf f) {k : Nat} (h : detF f (f 1) k ≠ 0) : esE f (k + 1) = k := by
  unfold esE
  rw [esP_s hv, if_neg h, List.length_append, List.length_singleton, Nat.add_sub_cancel]
  exact getD_new
theorem jump_new {f : Nat → Int} (hv : Vf f) {k : Nat} (h : detF f (f 1) k ≠ 0) : ljF (esP f (k + 1)) ((esP f (k + 1)).length - 1) = max (ljF (esP f k) ((esP f k).length - 1)) ((k : Int) - (esE f k : Nat)) := by
  have e : esP f (k + 1) = esP f k ++ [k] := by rw [esP_s hv, if_neg h]
  rw [e, List.length_append, List.length_singleton, Nat.add_sub_cancel]
  cases k with
  | zero => rfl
  | succ k =>
    have h1 := esP_one (f := f) (k := k)
    obtain ⟨m, hm⟩ : ∃ m, (esP f (k + 1)).length = m + 1 := ⟨(esP f (k + 1)).length - 1, by omega⟩
    have e1 : (esP f (k + 1) ++ [k + 1]).getD (m + 1) 0 = k + 1 := by
      rw [← hm]
      exact getD_new
    unfold esE
    rw [hm, Nat.add_sub_cancel]
    show max (ljF (esP f (k + 1) ++ [k + 1]) m) (((esP f (k + 1) ++ [k + 1]).getD (m + 1) 0 : Nat) - ((esP f (k + 1) ++ [k + 1]).getD m 0 : Nat)) = _
    rw [e1, ljF_app (by omega), getD_app (by omega)]
theorem Ru.dw {f : Nat → Int} {I : gI} {J : gJ} {B : gB} {x : Int32} (h : Ru f I J B) : Ru f (gUI I 48 0 0 1 x) J B := by
  obtain ⟨h1, h2, ⟨c, nx, hh, h3⟩, h4, h5⟩ := h
  exact ⟨h1, h2.to (fun a d z1 z2 => if_neg (fun y => by omega)) (fun _ _ _ => rfl), ⟨c, nx, hh, h3.to (fun d => if_neg (fun y => by omega)) (fun a b d z1 z2 z3 z4 => if_neg (fun y => by omega)) (fun _ _ _ _ _ _ => rfl)⟩, h4, h5.to fun a c d z1 z2 => if_neg (fun y => by omega)⟩
section MI
variable {E : gEn} {Q : gQt} {X : gXt} {I : gI} {J : gJ} {B : gB} {c w : Nat} {f : Nat → Int}
theorem det_sm {k : Nat} (hv : Vf f) : 0 ≤ detF f (f 1) k ∧ detF f (f 1) k < 31 := by
  have := det_b (f := f) (k := k) hv.2.1
  have := pr_b hv.2.1
  omega
theorem z_thr5 {a : Int} (h1 : -1000 ≤ a) (h2 : a ≤ 1000) (hR : Ru f I J B) (h : ¬ (0 ≤ a ∧ a < (ess f).length)) {x3 x4 : Int32} (k : ∀ I' J', QF I I' → JQ J J' → Q (.inl (.int (gi 2))) I' J' B) : gC E 151 [.inr (3, 0, 0), .inl (.int (gi 5)), .inl (.int (gi a)), .inl (.int x3), .inl (.int x4)] I J B Q X :=
  z_thr (j := 1) (by decide) (fun Q X k2 => e_L_calls_5 ⟨⟨by decide, by decide⟩, qno (c_stepEnd (by omega) (by omega) hR.s) (if_neg h) k2⟩) k
theorem z_thr4 {a : Int} (h1 : -1000 ≤ a) (h2 : a ≤ 1000) (hR : Ru f I J B) (h : ¬ (0 ≤ a ∧ a ≤ f 0)) {x3 x4 : Int32} (k : ∀ I' J', QF I I' → JQ J J' → Q (.inl (.int (gi 2))) I' J' B) : gC E 151 [.inr (3, 0, 0), .inl (.int (gi 4)), .inl (.int (gi a)), .inl (.int x3), .inl (.int x4)] I J B Q X :=
  z_thr (j := 1) (by decide) (fun Q X k2 => e_L_calls_4 ⟨⟨by decide, by decide⟩, qno (c_minor (by omega) (by omega) hR.s) (if_neg h) k2⟩) k
/-- the last part: a minor with another diagonal -/
theorem z_min_273 {a : Nat} (hR : Ru f I J B) (hgl : gL E ≤ 100000) (hd : I 48 0 0 1 = gi (a : Int)) (ha : a ≤ 1000) (hc : c ≤ 500) (hw : w ≤ 6000) (k : ∀ I' J', Ru f I' J' B → I' 48 0 0 1 = gi ((a + 3 : Nat) : Int) → Q (.inl (.int (gi 1))) I' J' B) : gG E 154 273 [(0, .inr (3, 0, 0)), (1, .inr (49, 0, 0)), (2, .inr (48, 0, 0))] [] I J B c w Q X := by
  have h0 := hR.1.1.1
  have h5 := hR.1.2
  have dw : ∀ {I : gI} {x : Int32}, (gUI I 48 0 0 1 x) 48 0 0 1 = x := if_pos ⟨rfl, rfl, rfl, rfl⟩
  refine s_L_minors_273 ?_
  rw [hR.2.2.2.2.1, gi_sub, gi_sub]
  refine z_draw hd (by omega) (by omega) (by omega) (by omega) hgl fun t t1 t2 => ?_
  show gC _ _ _ _ _ _ _ _
  refine z_draw dw (by omega) (by decide) (by decide) (by decide) hgl fun v v1 v2 => ?_
  have hR2 := hR.dw (x := gi ((a + 1 : Nat) : Int)) |>.dw (x := gi ((a + 1 + 1 : Nat) : Int))
  show gC _ _ _ _ _ _ _ _
  rw [hR2.2.2.2.2.1]
  refine z_draw dw (by omega) (by decide) (by omega) (by omega) hgl fun n n1 n2 => ?_
  have hR3 := hR2.dw (x := gi ((a + 1 + 1 + 1 : Nat) : Int))
  have e3 : (gUI (gUI (gUI I 48 0 0 1 (gi ((a + 1 : Nat) : Int))) 48 0 0 1 (gi ((a + 1 + 1 : Nat) : Int))) 48 0 0 1 (gi ((a + 1 + 1 + 1 : Nat) : Int))) 48 0 0 1 = gi ((a + 3 : Nat) : Int) := dw
  generalize gUI (gUI (gUI I 48 0 0 1 (gi ((a + 1 : Nat) : Int))) 48 0 0 1 (gi ((a + 1 + 1 : Nat) : Int))) 48 0 0 1 (gi ((a + 1 + 1 + 1 : Nat) : Int)) = I3 at hR3 e3 ⊢
  have hv3 := hR3.1
  have hL3 := hR3.2.2.2.2
  rw [gi_add, gi_c (by omega) (by omega)]
  have hvp : vp_in (gi (t + 6)) 13 := gvp (by omega) (by omega) (by decide)
  refine ⟨hvp, hvp, ?_⟩
  -- the law's system with the other diagonal
  obtain ⟨j, hj⟩ : ∃ j, j = (t + 6).toNat := ⟨_, rfl⟩
  have hj13 : j < 13 := by omega
  have hvf2 : Vl (upF f (2 + j) v) := by
    have := hv3.1.dia hj13 v1 v2
    exact ⟨this, by rw [upF_ne (by omega)]; exact h5⟩
  have f0 : (upF f (2 + j) v) 0 = f 0 := upF_ne (by omega)
  have f1 : (upF f (2 + j) v) 1 = f 1 := upF_ne (by omega)
  have hL4 : Lb (upF f (2 + j) v) (gUI I3 50 0 0 j (gi v)) := by
    obtain ⟨g1, g2, g3, g4, g5⟩ := hL3
    refine ⟨?_, ?_, fun k k1 k2 => ?_, fun i hi => ?_, fun i hi => ?_⟩
    · rw [f0]
      exact (if_neg (fun y => by omega)).trans g1
    · rw [f1]
      exact (if_neg (fun y => by omega)).trans g2
    · rw [f0] at k1 k2
      rw [dg_in (by omega) (by omega)]
      by_cases e : (k + 6).toNat = j
      · rw [e, show (gUI I3 50 0 0 j (gi v)) 50 0 0 j = gi v from if_pos ⟨rfl, rfl, rfl, rfl⟩, show (k + 8).toNat = 2 + j by omega, show upF f (2 + j) v (2 + j) = v from if_pos rfl]
      · rw [show (gUI I3 50 0 0 j (gi v)) 50 0 0 (k + 6).toNat = I3 50 0 0 (k + 6).toNat from if_neg (fun y => e y.2.2.2), g3 k k1 k2, dg_in (by omega) (by omega), upF_ne (by omega)]
    · rw [f0] at hi
      rw [upF_ne (by omega)]
      exact (if_neg (fun y => by omega)).trans (g4 i hi)
    · rw [f0] at hi
      rw [upF_ne (by omega)]
      exact (if_neg (fun y => by omega)).trans (g5 i hi)
  obtain ⟨m, rfl⟩ : ∃ m : Nat, n = m := ⟨n.toNat, by omega⟩
  have hdl := det_link (f := upF f (2 + j) v) (p := f 1) (k := m) hv3.1.2.1
  rw [← hj]
  refine z_lminor (by rw [f0]; omega) hvf2 hL4 ?_
  rw [f1, hdl]
  refine ⟨hvp, ⟨by omega, by omega⟩, ?_⟩
  -- back again
  have hI : ∀ a b c d, (gUI (gUI I3 50 0 0 j (gi v)) 50 0 0 j (I3 50 0 0 j)) a b c d = I3 a b c d := by
    intro a b c d
    unfold gUI
    by_cases e : a = 50 ∧ b = 0 ∧ c = 0 ∧ d = j
    · rw [if_pos e, e.1, e.2.1, e.2.2.1, e.2.2.2]
    · rw [if_neg e, if_neg e]
  have hI2 : gUI (gUI I3 50 0 0 j (gi v)) 50 0 0 j (I3 50 0 0 j) = I3 := by
    funext a b c d
    exact hI a b c d
  rw [hI2]
  refine qok (c_minorIf (by omega) (by omega) (by omega) (by omega) (by omega) (by omega) hR3.s) (by show (if _ then _ else _) = 0; rw [if_pos ⟨⟨by omega, by omega⟩, by omega, by omega⟩, if_pos ⟨by omega, by omega⟩]) fun I4 J4 q4 j4 => ?_
  have hR4 := hR3.q q4 j4
  have e4 : gi (rM (some f) fun f => detF (upF f (2 + (t + 6).toNat) v) (f 1) ((m : Int)).toNat) = gi (detF (upF f (2 + j) v) (f 1) m) := by rw [hj]; rfl
  rw [e4]
  refine ⟨fun z => absurd rfl z, fun _ => ⟨⟨by omega, by omega⟩, ?_⟩⟩
  refine z_thr (j := 2) (by decide) (fun Q X k2 => e_L_calls_6 ⟨⟨by decide, by decide⟩, qno (c_minorIf (by omega) (by omega) (by decide) (by decide) (by omega) (by omega) hR4.s) (by show (if _ then _ else _) = 3; rw [if_pos ⟨⟨by omega, by omega⟩, by omega, by omega⟩, if_neg (by omega)]) k2⟩) fun I5 J5 q5 j5 => ?_
  have hR5 := hR4.q q5 j5
  refine ⟨fun z => absurd rfl z, fun _ => ⟨⟨by omega, by omega⟩, ?_⟩⟩
  rw [hR5.2.2.2.2.1]
  refine z_thr (j := 1) (by decide) (fun Q X k2 => e_L_calls_6 ⟨⟨by decide, by decide⟩, qno (c_minorIf (by omega) (by omega) (by omega) (by omega) (by omega) (by omega) hR5.s) (by show (if _ then _ else _) = 2; rw [if_neg (by omega)]) k2⟩) fun I6 J6 q6 j6 => ?_
  refine ⟨fun z => absurd rfl z, fun _ => ⟨Or.inr rfl, k I6 J6 (hR5.q q6 j6) ?_⟩⟩
  exact (q6 48 0 0 1 (by unfold KQ; omega)).trans ((q5 48 0 0 1 (by unfold KQ; omega)).trans ((q4 48 0 0 1 (by unfold KQ; omega)).trans e3))
theorem z_min_230 {a : Nat} (hR : Ru f I J B) (hgl : gL E ≤ 100000) (hd : I 48 0 0 1 = gi (a : Int)) (ha : a ≤ 1000) (hc : c ≤ 100) (hw : w ≤ 2000) (k : ∀ I' J', Ru f I' J' B → I' 48 0 0 1 = gi ((a + 3 : Nat) : Int) → Q (.inl (.int (gi 1))) I' J' B) : gG E 154 230 [(0, .inr (3, 0, 0)), (1, .inr (49, 0, 0)), (2, .inr (48, 0, 0)), (4, .inl (.int (gi (((ess f).length - 1 : Nat) : Int)))), (6, .inl (.int (rpF f 11)))] [] I J B c w Q X := by
  have h0 := hR.1.1.1
  have h5 := hR.1.2
  have hel := ess_l hR.1.1
  refine s_L_minors_230 ⟨⟨by omega, by omega⟩, ?_⟩
  refine qok (c_regularPrimes hR.s) rfl fun I1 J1 q1 j1 => ?_
  have hR1 := hR.q q1 j1
  have e1 : gi (rM (some f) fun f => (rpF f 11).toInt) = rpF f 11 := gi_x _
  rw [e1]
  refine ⟨fun z => absurd rfl z, fun _ => ⟨⟨by omega, by omega⟩, ?_⟩⟩
  rw [gi_add]
  refine z_thr5 (by omega) (by omega) hR1 (by omega) fun I2 J2 q2 j2 => ?_
  have hR2 := hR1.q q2 j2
  refine ⟨fun z => absurd rfl z, fun _ => ⟨⟨by omega, by omega⟩, ?_⟩⟩
  rw [hR2.2.2.2.2.1, gi_add]
  refine z_thr4 (by omega) (by omega) hR2 (by omega) fun I3 J3 q3 j3 => ?_
  have hR3 := hR2.q q3 j3
  refine ⟨fun _ => ?_, fun z => absurd rfl z⟩
  refine z_min_273 hR3 hgl ?_ ha (by omega) (by omega) k
  exact (q3 48 0 0 1 (by unfold KQ; omega)).trans ((q2 48 0 0 1 (by unfold KQ; omega)).trans ((q1 48 0 0 1 (by unfold KQ; omega)).trans hd))
theorem gprime_pr : ∀ j : Nat, j < 11 → gprime j = gi (primesL.getD j 0) ∧ primesL.getD j 0 ∈ primesL := by decide +kernel
theorem z_min_189 {y4 : Int32} (hv : Vl f) (k : gG E 154 230 [(0, .inr (3, 0, 0)), (1, .inr (49, 0, 0)), (2, .inr (48, 0, 0)), (4, .inl (.int y4)), (6, .inl (.int (rpF f 11)))] [] I J B c w Q X) :
    ∀ d j : Nat, j + d = 11 → gG E 154 189 [(0, .inr (3, 0, 0)), (1, .inr (49, 0, 0)), (2, .inr (48, 0, 0)), (4, .inl (.int y4)), (6, .inl (.int (rpF f j))), (7, .inl (.long (gj (mnF f (f 0).toNat)))), (9, .inl (.int (gi (j : Int))))] [] I J B c w Q X
  | 0, j, hj => by
    refine s_L_minors_189 ?_
    rw [gi_le (by omega) (by omega) (by omega) (by omega)]
    refine ⟨fun _ => ?_, fun z => by omega⟩
    rw [show j = 11 by omega]
    exact k
  | d + 1, j, hj => by
    have h0 := hv.1.1
    have h5 := hv.2
    obtain ⟨p1, p2⟩ := gprime_pr j (by omega)
    have hpb := pr_b p2
    have hb := lA_bd hv (rs := List.range (f 0).toNat) (cs := List.range (f 0).toNat) (by rw [List.length_range]; omega) (by rw [List.length_range]; omega)
    have hb2 : (mnF f (f 0).toNat).natAbs ≤ 976562500000 := hb
    refine s_L_minors_189 ?_
    rw [gi_le (by omega) (by omega) (by omega) (by omega), gi_c (by omega) (by omega), gtn, p1, gij (by omega) (by omega), gj_eq (by omega) (by omega) (by decide) (by decide), gj_rem (by omega) (by omega) (by omega) (by omega), gi_add]
    have t1 := Int.tmod_lt_of_pos (mnF f (f 0).toNat) (show 0 < primesL.getD j 0 by omega)
    have t2 := Int.lt_tmod_of_pos (mnF f (f 0).toNat) (show 0 < primesL.getD j 0 by omega)
    rw [show gj 0 = gj (0 : Int) from rfl, lg_cj (by omega) (by omega) (by decide) (by decide)]
    have hz : (mnF f (f 0).toNat).tmod (primesL.getD j 0) = 0 ↔ detF f (primesL.getD j 0) (f 0).toNat = 0 := by
      rw [← det_link p2]
      exact ⟨fun h => Int.emod_eq_zero_of_dvd (Int.dvd_of_tmod_eq_zero h), fun h => Int.tmod_eq_zero_of_dvd (Int.dvd_of_emod_eq_zero h)⟩
    have hs : rpF f (j + 1) = if detF f (primesL.getD j 0) (f 0).toNat = 0 then rpF f j else rpF f j ||| ((gi 1) <<< ((gi j) &&& 31)) := rfl
    refine ⟨fun z => by omega, fun _ => ⟨gvp (by omega) (by omega) (by decide), by omega, fun z => ?_, fun z => ?_⟩⟩
    · have h1 : (mnF f (f 0).toNat).tmod (primesL.getD j 0) = 0 := by
        apply Classical.byContradiction
        intro hn
        rw [if_neg hn] at z
        split at z
        · exact absurd z (by decide)
        · exact absurd z (by decide)
      have g := z_min_189 hv k d (j + 1) (by omega)
      rw [hs, if_pos (hz.mp h1)] at g
      have e : rpF f j ||| gi 0 = rpF f j := Int32.or_zero
      rw [e]
      exact g
    · have h1 : ¬ (mnF f (f 0).toNat).tmod (primesL.getD j 0) = 0 := by
        intro hn
        rw [if_neg (by omega), if_pos hn] at z
        exact z rfl
      have g := z_min_189 hv k d (j + 1) (by omega)
      rw [hs, if_neg (fun h => h1 (hz.mpr h))] at g
      exact g
theorem z_min_164 {a : Nat} (hR : Ru f I J B) (hgl : gL E ≤ 100000) (hd : I 48 0 0 1 = gi (a : Int)) (ha : a ≤ 1000) (hc : c ≤ 100) (hw : w ≤ 2000) (k : ∀ I' J', Ru f I' J' B → I' 48 0 0 1 = gi ((a + 3 : Nat) : Int) → Q (.inl (.int (gi 1))) I' J' B) : gG E 154 164 [(0, .inr (3, 0, 0)), (1, .inr (49, 0, 0)), (2, .inr (48, 0, 0)), (4, .inl (.int (gi (((ess f).length - 1 : Nat) : Int)))), (6, .inl (.int (gi 0)))] [] I J B c w Q X := by
  have h0 := hR.1.1.1
  have h5 := hR.1.2
  have hL := hR.2.2.2.2
  obtain ⟨c1, c2⟩ := ml_all (f 0).toNat (by omega) (f 0).toNat (Nat.le_refl _)
  have ef : gi (f 0) = gi (((f 0).toNat : Nat) : Int) := by rw [show (((f 0).toNat : Nat) : Int) = f 0 by omega]
  refine s_L_minors_164 ?_
  rw [hL.1, ef]
  refine z_lfirst (by omega) ?_
  show gC _ _ _ _ _ _ _ _
  rw [hL.1, ef]
  refine z_lfirst (by omega) ?_
  show gC _ _ _ _ _ _ _ _
  refine z_ldet c2 c2 hR.1 hL ?_
  rw [c1]
  exact z_min_189 hR.1 (z_min_230 hR hgl hd ha hc hw k) 11 0 rfl
theorem z_min_151 {a : Nat} (hR : Ru f I J B) (hgl : gL E ≤ 100000) (hd : I 48 0 0 1 = gi (a : Int)) (ha : a ≤ 1000) (hc : c ≤ 90) (hw : w ≤ 1900) (k : ∀ I' J', Ru f I' J' B → I' 48 0 0 1 = gi ((a + 3 : Nat) : Int) → Q (.inl (.int (gi 1))) I' J' B) : gG E 154 151 [(0, .inr (3, 0, 0)), (1, .inr (49, 0, 0)), (2, .inr (48, 0, 0)), (4, .inl (.int (gi (((ess f).length - 1 : Nat) : Int)))), (6, .inl (.int (gi 0)))] [] I J B c w Q X := by
  refine s_L_minors_151 ⟨⟨by omega, by omega⟩, ?_⟩
  refine qok (c_rank hR.s) rfl fun I1 J1 q1 j1 => ?_
  have hR1 := hR.q q1 j1
  show gC _ _ _ _ _ _ _ _
  refine z_lrank hR1.1 hR1.2.2.2.2 ?_
  refine ⟨fun _ => ?_, fun z => absurd rfl z⟩
  exact z_min_164 hR1 hgl ((q1 48 0 0 1 (by unfold KQ; omega)).trans hd) ha (by omega) (by omega) k
theorem z_min_14 {a : Nat} (hgl : gL E ≤ 100000) (ha : a ≤ 1000) (k : ∀ I' J', Ru f I' J' B → I' 48 0 0 1 = gi ((a + 3 : Nat) : Int) → Q (.inl (.int (gi 1))) I' J' B) :
    ∀ (d i : Nat) (I : gI) (J : gJ) (c w : Nat), i + d = (f 0).toNat + 1 → Ru f I J B → I 48 0 0 1 = gi (a : Int) → c ≤ 4 * i → w ≤ 24 * i → gG E 154 14 [(0, .inr (3, 0, 0)), (1, .inr (49, 0, 0)), (2, .inr (48, 0, 0)), (3, .inl (.int (gi (esE f i : Nat)))), (4, .inl (.int (gi (((esP f i).length - 1 : Nat) : Int)))), (5, .inl (.int (gi (ljF (esP f i) ((esP f i).length - 1))))), (6, .inl (.int (gi 0))), (7, .inl (.int (gi (i : Int))))] [] I J B c w Q X
  | 0, i, I, J, c, w, hi, hR, hd, hc, hw => by
    have h0 := hR.1.1.1
    have h5 := hR.1.2
    have hi2 : i = (f 0).toNat + 1 := by omega
    subst hi2
    refine s_L_minors_14 ?_
    rw [hR.2.2.2.2.1, gi_lt (by omega) (by omega) (by omega) (by omega)]
    refine ⟨fun _ => ⟨⟨by omega, by omega⟩, ?_⟩, fun z => by omega⟩
    refine qok (c_steps hR.s) rfl fun I1 J1 q1 j1 => ?_
    have hR1 := hR.q q1 j1
    rw [esP_ess]
    refine ⟨fun z => absurd rfl z, fun _ => ⟨⟨by omega, by omega⟩, ?_⟩⟩
    refine qok (c_longestJump hR1.s) rfl fun I2 J2 q2 j2 => ?_
    have hR2 := hR1.q q2 j2
    refine ⟨fun z => absurd rfl z, fun _ => ⟨⟨by omega, by omega⟩, ?_⟩⟩
    refine qok (c_tail hR2.s) rfl fun I3 J3 q3 j3 => ?_
    have hR3 := hR2.q q3 j3
    have e3 : gi (rM (some f) fun f => f 0 - ((ess f).getD ((ess f).length - 1) 0 : Nat)) = I3 49 0 0 4 - gi (esE f ((f 0).toNat + 1) : Nat) := by
      rw [hR3.2.2.2.2.1, gi_sub]
      rfl
    rw [e3]
    refine ⟨fun z => absurd rfl z, fun _ => ⟨⟨by omega, by omega⟩, ?_⟩⟩
    refine qok (c_isRegular hR3.s) rfl fun I4 J4 q4 j4 => ?_
    have hR4 := hR3.q q4 j4
    have hd4 : I4 48 0 0 1 = gi (a : Int) := (q4 48 0 0 1 (by unfold KQ; omega)).trans ((q3 48 0 0 1 (by unfold KQ; omega)).trans ((q2 48 0 0 1 (by unfold KQ; omega)).trans ((q1 48 0 0 1 (by unfold KQ; omega)).trans hd)))
    have hle := esE_le hR.1.1 (k := (f 0).toNat + 1)
    have hreg : rgB f = true ↔ detF f (f 1) (f 0).toNat ≠ 0 := by
      rw [det_reg hR.1.1.2.1]
      exact decide_eq_true_iff
    rw [hR4.2.2.2.2.1, gi_eq (by omega) (by omega) (by omega) (by omega)]
    have go : gG E 154 151 [(0, .inr (3, 0, 0)), (1, .inr (49, 0, 0)), (2, .inr (48, 0, 0)), (4, .inl (.int (gi (((ess f).length - 1 : Nat) : Int)))), (6, .inl (.int (gi 0)))] [] I4 J4 B (c + 1 + 1 + 1 + 1) (w + 6 + 6 + 6 + 6) Q X :=
      z_min_151 hR4 hgl hd4 ha (by omega) (by omega) k
    by_cases hz : detF f (f 1) (f 0).toNat = 0
    · have e0 : gi (rM (some f) fun f => bI (rgB f)) = gi 0 := by
        have : rgB f = false := by
          cases h : rgB f with
          | false => rfl
          | true => exact absurd hz (hreg.mp h)
        show gi (bI (rgB f)) = gi 0
        rw [this]
        rfl
      have hne : esE f ((f 0).toNat + 1) ≤ (f 0).toNat - 1 := by
        have e : esE f ((f 0).toNat + 1) = esE f (f 0).toNat := by
          unfold esE
          rw [esP_s hR.1.1, if_pos hz]
        rw [e]
        exact esE_le hR.1.1
      rw [e0]
      exact ⟨fun _ => ⟨fun z => absurd rfl z, fun _ => go⟩, fun z => by omega⟩
    · have e0 : gi (rM (some f) fun f => bI (rgB f)) = gi 1 := by
        show gi (bI (rgB f)) = gi 1
        rw [hreg.mpr hz]
        rfl
      have hne := esE_new hR.1.1 hz
      rw [e0]
      exact ⟨fun z => absurd (by omega) z, fun _ => ⟨fun z => absurd rfl z, fun _ => go⟩⟩
  | d + 1, i, I, J, c, w, hi, hR, hd, hc, hw => by
    have h0 := hR.1.1.1
    have h5 := hR.1.2
    have hds := det_sm (k := i) hR.1.1
    have hdl := det_link (f := f) (k := i) hR.1.1.2.1
    have hlen : (esP f i).length ≤ i := esP_len
    refine s_L_minors_14 ?_
    rw [hR.2.2.2.2.1, gi_lt (by omega) (by omega) (by omega) (by omega)]
    refine ⟨fun z => by omega, fun _ => ?_⟩
    refine z_lminor (by omega) hR.1 hR.2.2.2.2 ?_
    rw [hdl]
    refine ⟨⟨by omega, by omega⟩, ?_⟩
    refine qok (c_minor (by omega) (by omega) hR.s) (if_pos (by omega)) fun I1 J1 q1 j1 => ?_
    have hR1 := hR.q q1 j1
    have hd1 := (q1 48 0 0 1 (by unfold KQ; omega)).trans hd
    have e1 : gi (rM (some f) fun f => detF f (f 1) ((i : Int)).toNat) = gi (detF f (f 1) i) := rfl
    rw [e1, gi_eq (a := detF f (f 1) i) (b := 0) (by omega) (by omega) (by decide) (by decide), gi_le (by omega) (by omega) (by decide) (by decide), gi_add, gi_add, gi_add]
    refine ⟨fun _ => ⟨fun z => ?_, fun z => ?_⟩, fun z => absurd rfl z⟩
    · -- a regular size
      have eP : esP f (i + 1) = esP f i ++ [i] := by rw [esP_s hR.1.1, if_neg z]
      have eL : (esP f (i + 1)).length - 1 = (esP f i).length := by rw [eP, List.length_append]; rfl
      have hjb := ljF_b (l := esP f i) (fun j => by
        by_cases h : j < (esP f i).length
        · have := esP_le hR.1.1 _ (getD_mem h)
          omega
        · rw [List.getD_eq_getElem?_getD, List.getElem?_eq_none (by omega)]
          exact Nat.zero_le _) ((esP f i).length - 1)
      have hel := esE_le hR.1.1 (k := i)
      have tail : gG E 154 67 [(0, .inr (3, 0, 0)), (1, .inr (49, 0, 0)), (2, .inr (48, 0, 0)), (3, .inl (.int (gi (esE f i : Nat)))), (4, .inl (.int (gi ((esP f i).length : Nat)))), (5, .inl (.int (gi (ljF (esP f i) ((esP f i).length - 1))))), (6, .inl (.int (gi 0))), (7, .inl (.int (gi (i : Int))))] [] I1 J1 B (c + 2) (w + 12) Q X := by
        refine s_L_minors_67 ?_
        rw [gi_sub, gi_add]
        refine z_max (by omega) (by omega) (by omega) (by omega) ?_
        refine ⟨⟨by omega, by omega⟩, ?_⟩
        obtain ⟨l, hl⟩ := esP_pre hR.1.1 (k := i + 1) ((f 0).toNat - i)
        rw [show i + 1 + ((f 0).toNat - i) = (f 0).toNat + 1 by omega, esP_ess, eP, List.append_assoc] at hl
        have hlt : (esP f i).length < (ess f).length := by
          rw [hl]
          simp only [List.length_append, List.length_cons, List.length_nil]
          omega
        refine qok (c_stepEnd (by omega) (by omega) hR1.s) (if_pos (by omega)) fun I2 J2 q2 j2 => ?_
        have hR2 := hR1.q q2 j2
        have e2 : gi (rM (some f) fun g => (stE g ((esP f i).length : Nat) : Nat)) = gi (i : Int) := by
          show gi (((ess f).getD (((esP f i).length : Nat) : Int).toNat 0 : Nat) : Int) = _
          rw [gtn, hl]
          have : (esP f i ++ ([i] ++ l)).getD (esP f i).length 0 = i := getD_new
          rw [this]
        rw [e2]
        refine ⟨fun _ => ?_, fun z => absurd rfl z⟩
        have g := z_min_14 hgl ha k d (i + 1) I2 J2 (c + 2 + 2) (w + 12 + 12) (by omega) hR2 ((q2 48 0 0 1 (by unfold KQ; omega)).trans hd1) (by omega) (by omega)
        have ej := jump_new hR.1.1 z
        rw [eL] at ej
        rw [esE_new hR.1.1 z, eL, ej] at g
        exact g
      refine ⟨fun y => ?_, fun y => ?_⟩
      · have hi0 : i = 0 := by omega
        subst hi0
        exact tail
      · have : 1 ≤ (esP f i).length := by
          obtain ⟨i2, rfl⟩ : ∃ i2, i = i2 + 1 := ⟨i - 1, by omega⟩
          exact esP_one
        have e : ((((esP f i).length - 1 : Nat) : Int) + 1) = ((esP f i).length : Nat) := by omega
        rw [e]
        exact tail
    · have eP : esP f (i + 1) = esP f i := by rw [esP_s hR.1.1, if_pos z]
      have g := z_min_14 hgl ha k d (i + 1) I1 J1 (c + 2) (w + 12) (by omega) hR1 hd1 (by omega) (by omega)
      unfold esE at g ⊢
      rw [eP] at g
      exact g
theorem z_minors {a : Nat} (hR : Ru f I J B) (hgl : gL E ≤ 100000) (hd : I 48 0 0 1 = gi (a : Int)) (ha : a ≤ 1000) (k : ∀ I' J', Ru f I' J' B → I' 48 0 0 1 = gi ((a + 3 : Nat) : Int) → Q (.inl (.int (gi 1))) I' J' B) : gC E 154 [.inr (3, 0, 0), .inr (49, 0, 0), .inr (48, 0, 0)] I J B Q X :=
  e_L_minors (z_min_14 hgl ha k ((f 0).toNat + 1) 0 I J 0 0 (Nat.zero_add _) hR hd (by omega) (by omega))
end MI
