/-! ===== solutions and the inverse by Cramer's rule: the law's 'solutions' of a regular system ===== -/
theorem wiV_eq {f : Nat → Int} {i : Nat} {x : Nat → Int} (hi : i < (f 0).toNat) : wiV f i x = sgn i * dtm ((List.range (f 0).toNat).map (lB f x)) ((f 0).toNat :: rem (f 0).toNat i) := by
  unfold wiV
  rw [dtm_col (by rw [List.length_map, List.length_range, rem_len hi])]
theorem lB_lt {f x : Nat → Int} {a c : Nat} (h : c < (f 0).toNat) : lB f x a c = lA f a c := if_pos h
theorem lB_n {f x : Nat → Int} {a : Nat} : lB f x a (f 0).toNat = x a := if_neg (Nat.lt_irrefl _)
theorem mb_lB {f b : Nat → Int} {p : Int} {a c : Nat} (h : c < (f 0).toNat + 1) : Cg p (mbF f p (f 0).toNat b a c) (lB f b a c) := by
  unfold mbF
  by_cases e : c < (f 0).toNat
  · rw [if_pos e, lB_lt e]
    exact Cg.md
  · rw [if_neg e, if_pos (by omega), show c = (f 0).toNat by omega, lB_n]
    exact Cg.md
theorem sol_link {f b : Nat → Int} {i : Nat} (hv : Vf f) (hr : rgB f = true) (hi : i < (f 0).toNat) : Cg (f 1) (wiV f i b) (sdF f b i (f 0).toNat * mnF f (f 0).toNat) := by
  have hp := pr_b hv.2.1
  have hM := Rg.mb (f := f) (n := (f 0).toNat) (b := b) (show 1 ≤ f 1 by omega)
  have hrk : (elF (f 1) (f 0).toNat (mbF f (f 1) (f 0).toNat b) (f 0).toNat).1 = (f 0).toNat := by
    rw [rk_mb]
    exact of_decide_eq_true hr
  have h1 := el_sol hv.2.1 hM hrk
  have h2 := cramer (p := f 1) (n := (f 0).toNat) (M := lB f b) (x := fun c => sdF f b c (f 0).toNat) hi (fun a ha => by
    refine ((mb_lB (p := f 1) (Nat.lt_succ_self _)).sy.tr (h1 a ha)).tr ?_
    exact sm_cg (fun c hc => mb_lB (by omega)) (fun c _ => Cg.rf))
  rw [wiV_eq hi]
  refine h2.tr (Cg.of ?_)
  have e : Dn (f 0).toNat (lB f b) (List.range (f 0).toNat) = mnF f (f 0).toNat := dtm_eqv fun r _ c hc => lB_lt (List.mem_range.mp hc)
  rw [e]
theorem sol_val {f b : Nat → Int} {i : Nat} {w : Int} (hv : Vf f) (hr : rgB f = true) (hi : i < (f 0).toNat) (hw : (mnF f (f 0).toNat % f 1 * w) % f 1 = 1) : (wiV f i b % f 1 * w) % f 1 = sdF f b i (f 0).toNat := by
  have hp := pr_b hv.2.1
  have hx := sd_rg (bb := b) hv i (f 0).toNat
  have h1 := sol_link (b := b) hv hr hi
  have h2 : Cg (f 1) (wiV f i b % f 1 * w) (sdF f b i (f 0).toNat) := by
    have a1 : Cg (f 1) (mnF f (f 0).toNat * w) 1 := by
      refine (Cg.md.sy.mul Cg.rf).tr (Cg.of_md ?_)
      rw [hw, Int.emod_eq_of_lt (by decide) (by omega)]
    refine (Cg.md.mul Cg.rf).tr ((h1.mul Cg.rf).tr ?_)
    rw [Int.mul_assoc]
    have a2 := (Cg.rf (p := f 1) (x := sdF f b i (f 0).toNat)).mul a1
    rw [Int.mul_one] at a2
    exact a2
  rw [h2.eq, Int.emod_eq_of_lt hx.1 hx.2]
/-- the law's rows that stand late -/
def Un (u : Nat) (B : gB) : Prop := ∀ m, u ≤ m → m < 400 → B m = false
theorem gall_53 : ∀ i : Nat, i < 300 → ((53, 100 + i, 0) : gR) ∈ gall := by decide +kernel
theorem gall_54 : ∀ i : Nat, i < 20 → ((54, 400 + i, 0) : gR) ∈ gall := by decide +kernel
theorem Ru.un {f : Nat → Int} {I I' : gI} {J : gJ} {B : gB} {m : Nat} (h : Ru f I J B) (hm : 100 ≤ m) (hI : ∀ a b c d, a < 53 → I' a b c d = I a b c d) : Ru f I' J (gUB B m) := by
  obtain ⟨h1, h2, ⟨c, nx, hh, h3⟩, h4, h5⟩ := h
  have hB : ∀ k, k < 100 → gUB B m k = B k := fun k hk => if_neg (by omega)
  refine ⟨h1, h2.to (fun a d z1 z2 => hI a 0 0 d (by omega)) (fun _ _ _ => rfl), ⟨c, nx, hh, ?_⟩, fun k k1 k2 => by rw [hB k (by omega), hB (k + 17) (by omega)]; exact h4 k k1 k2, h5.to fun a c d z1 z2 => hI a 0 c d (by omega)⟩
  have h6 := h3.to (I' := I') (J' := J) (fun d => hI 13 0 0 d (by omega)) (fun a b d z1 z2 z3 z4 => hI a b 0 d (by omega)) (fun _ _ _ _ _ _ => rfl)
  obtain ⟨g1, g2, g3, g4, g5⟩ := h6
  refine ⟨g1, g2, g3, g4, fun j hj => ?_⟩
  obtain ⟨k1, k2, k3⟩ := g5 j hj
  exact ⟨k1, k2, by rw [hB _ (by omega)]; exact k3⟩
section SO
variable {E : gEn} {Q : gQt} {X : gXt} {I : gI} {J : gJ} {B : gB} {c w : Nat} {f : Nat → Int}
theorem z_lundone_l {v : Int} (hv : Vl f) (hL : Lb f I) (h1 : 0 < v) (h2 : v < f 1) (k : ∀ t : Int, 1 ≤ t → t < f 1 → (v * t) % f 1 = 1 → Q (.inl (.int (gi t))) I J B) :
    ∀ (d : Nat) (t : Int), t + d = inv (f 1) v → 1 ≤ t → gG E 135 2 [(0, .inr (49, 0, 0)), (1, .inl (.int (gi v))), (2, .inl (.int (gi t)))] [] I J B c w Q X
  | d, t, ht, ht1 => by
    have hp := pr_b hv.1.2.1
    obtain ⟨g1, g2, g3⟩ := pr_inv (f 1) hv.1.2.1 v h1 h2
    have hb := mulb (x := v) (y := t) (by omega) (by omega) (by omega) (by omega)
    have b1 := Int.emod_nonneg (v * t) (show f 1 ≠ 0 by omega)
    have b2 := Int.emod_lt_of_pos (v * t) (show 0 < f 1 by omega)
    refine s_X9_undone_2 ?_
    rw [gij (by omega) (by omega), gij (by omega) (by omega), gj_mul, gi_add]
    refine z_lmod hv hL (by omega) (by omega) ?_
    show (gi _ = gi 1 → _) ∧ (¬ gi _ = gi 1 → _)
    rw [gi_eq (by omega) (by omega) (by decide) (by decide)]
    refine ⟨fun z => k t ht1 (by omega) z, fun z => ?_⟩
    cases d with
    | zero =>
      have : t = inv (f 1) v := by omega
      rw [this, Int.mul_comm] at z
      exact absurd g1 z
    | succ d => exact z_lundone_l hv hL h1 h2 k d (t + 1) (by omega) (by omega)
theorem z_lundone {v : Int} (hv : Vl f) (hL : Lb f I) (h1 : 0 < v) (h2 : v < f 1) (k : ∀ t : Int, 1 ≤ t → t < f 1 → (v * t) % f 1 = 1 → Q (.inl (.int (gi t))) I J B) : gC E 135 [.inr (49, 0, 0), .inl (.int (gi v))] I J B Q X := by
  obtain ⟨g1, g2, g3⟩ := pr_inv (f 1) hv.1.2.1 v h1 h2
  exact e_X9_undone (z_lundone_l hv hL h1 h2 k (inv (f 1) v - 1).toNat 1 (by omega) (Int.le_refl 1))
/-- behind the law's own value of a solution -/
theorem z_sol_val {b : Nat → Int} {i : Nat} {t : Int} (hv : Vl f) (hL : Lb f I) (hr : rgB f = true) (hi : i < (f 0).toNat) (hb : ∀ a, a < (f 0).toNat → (b a).natAbs ≤ 999) (t1 : 1 ≤ t) (t2 : t < f 1) (ht : (mnF f (f 0).toNat % f 1 * t) % f 1 = 1)
    {K : gQt} (k : K (.inl (.int (gi (sdF f b i (f 0).toNat)))) I J B) : gC E 134 [.inr (49, 0, 0), .inl (.long (gj (wiV f i b)))] I J B (fun v61 I62 J63 B64 => gvi v61 fun r65 => (gC E 134 [.inr (49, 0, 0), .inl (.long (Int32.toInt64 (r65 * gi t)))] I62 J63 B64 K X)) X := by
  have hp := pr_b hv.1.2.1
  have hwb := wiV_bd hv hb hi
  have b1 := Int.emod_nonneg (wiV f i b) (show f 1 ≠ 0 by omega)
  have b2 := Int.emod_lt_of_pos (wiV f i b) (show 0 < f 1 by omega)
  have hm := mulb (x := wiV f i b % f 1) (y := t) (by omega) (by omega) (by omega) (by omega)
  refine z_lmod hv hL (by omega) (by omega) ?_
  show gC _ _ _ _ _ _ _ _
  rw [gi_mul, gij (by omega) (by omega)]
  refine z_lmod hv hL (by omega) (by omega) ?_
  rw [sol_val hv.1 hr hi ht]
  exact k
theorem z_sol_129 {i : Nat} {t : Int} {a u : Nat} (hr : rgB f = true) (hi : i < (f 0).toNat) (t1 : 1 ≤ t) (t2 : t < f 1) (ht : (mnF f (f 0).toNat % f 1 * t) % f 1 = 1) (hu : 100 ≤ u) (hu2 : u + 5 ≤ 400)
    (k : ∀ I J B c w, Ru f I J B → I 48 0 0 1 = gi (a : Int) → Un (u + 5) B → c ≤ 40 * i + 40 → w ≤ 240 * i + 240 → gG E 156 88 [(0, .inr (3, 0, 0)), (1, .inr (49, 0, 0)), (2, .inl (.int (gi t))), (3, .inl (.int (gi ((i + 1 : Nat) : Int))))] [] I J B c w Q X) :
    ∀ (d j : Nat) (I : gI) (J : gJ) (B : gB) (c w : Nat), j + d = (f 0).toNat → Ru f I J B → I 48 0 0 1 = gi (a : Int) → Un (u + j) B → c + 5 * d ≤ 40 * i + 40 → w + 31 * d ≤ 240 * i + 240 → gG E 156 129 [(0, .inr (3, 0, 0)), (1, .inr (49, 0, 0)), (2, .inl (.int (gi t))), (3, .inl (.int (gi (i : Int)))), (4, .inl (.int (gi (j : Int))))] [] I J B c w Q X
  | 0, j, I, J, B, c, w, hj, hR, hd, hU, hc, hw => by
    have h0 := hR.1.1.1
    have h5 := hR.1.2
    refine s_L_solutions_129 ?_
    rw [hR.2.2.2.2.1, gi_le (by omega) (by omega) (by omega) (by omega), gi_add]
    refine ⟨fun _ => ?_, fun z => by omega⟩
    exact k I J B c w hR hd (fun m h1 h2 => hU m (by omega) h2) (by omega) (by omega)
  | d + 1, j, I, J, B, c, w, hj, hR, hd, hU, hc, hw => by
    have h0 := hR.1.1.1
    have h5 := hR.1.2
    refine s_L_solutions_129 ?_
    rw [hR.2.2.2.2.1, gi_le (by omega) (by omega) (by omega) (by omega), gi_add, gi_c (by omega) (by omega), gtn]
    have hg := gall_53 (u + j - 100) (by omega)
    rw [show 100 + (u + j - 100) = u + j by omega] at hg
    refine ⟨fun z => by omega, fun _ => ⟨rfl, by decide, u + j, ⟨by omega, hg, hU (u + j) (Nat.le_refl _) (by omega)⟩, ⟨by omega, by omega⟩, gvp (by omega) (by omega) (by decide), ⟨by omega, by omega⟩, ?_⟩⟩
    have hI : ∀ a b c d, a < 53 → (gUI (gnaI I 53 (u + j)) 53 (u + j) 0 j (gi 1)) a b c d = I a b c d := fun a b c d h => (if_neg (fun y => by omega)).trans (if_neg (fun y => by omega))
    have hR1 := hR.un (m := u + j) (by omega) hI
    have hx : ∀ r, r < (f 0).toNat → (gUI (gnaI I 53 (u + j)) 53 (u + j) 0 j (gi 1)) 53 (u + j) 0 r = gi (ub j r) := by
      intro r _
      unfold gUI gnaI ub
      by_cases e : r = j
      · rw [if_pos ⟨rfl, rfl, rfl, e⟩, if_pos e]
      · rw [if_neg (fun y => e y.2.2.2), if_pos ⟨rfl, rfl⟩, if_neg e]
        rfl
    have hd1 := (hI 48 0 0 1 (by decide)).trans hd
    generalize gUI (gnaI I 53 (u + j)) 53 (u + j) 0 j (gi 1) = I1 at hR1 hx hd1 ⊢
    refine qok (c_inverse (by omega) (by omega) (by omega) (by omega) hR1.s) (by show (if _ then _ else _) = 0; rw [if_pos ⟨⟨by omega, by omega⟩, by omega, by omega⟩, if_pos hr]) fun I2 J2 q2 j2 => ?_
    have hR2 := hR1.q q2 j2
    have hbb : ∀ r, r < (f 0).toNat → (ub j r).natAbs ≤ 999 := fun r _ => by
      unfold ub
      split <;> decide
    show gC _ _ _ _ _ _ _ _
    refine z_with53 (x := ub j) hR2.1 hR2.2.2.2.2 hi (fun r hr2 => ⟨(q2 53 (u + j) 0 r (by unfold KQ; omega)).trans (hx r hr2), hbb r hr2⟩) ?_
    refine z_sol_val hR2.1 hR2.2.2.2.2 hr hi hbb t1 t2 ht ?_
    have e2 : gi (rM (some f) fun f => IvM f ((i : Int)).toNat ((f 0).toNat + ((j : Int)).toNat)) = gi (sdF f (ub j) i (f 0).toNat) := by
      rw [sd_iv hR2.1.1 (by omega)]
      rfl
    rw [e2]
    refine ⟨fun _ => ?_, fun z => absurd rfl z⟩
    rw [gi_add]
    refine z_sol_129 hr hi t1 t2 ht hu hu2 k d (j + 1) I2 J2 (gUB B (u + j)) (c + 1 + 4) (w + 7 + 24) (by omega) hR2 ((q2 48 0 0 1 (by unfold KQ; omega)).trans hd1) (fun m h1 h2 => ?_) (by omega) (by omega)
    show gUB B (u + j) m = false
    rw [show gUB B (u + j) m = B m from if_neg (by omega)]
    exact hU m (by omega) h2
theorem z_sol_88 {t : Int} {a u : Nat} (hr : rgB f = true) (t1 : 1 ≤ t) (t2 : t < f 1) (ht : (mnF f (f 0).toNat % f 1 * t) % f 1 = 1) (hu : 100 ≤ u) (hu2 : u + 25 ≤ 400)
    (k : ∀ I' J' B', Ru f I' J' B' → I' 48 0 0 1 = gi (a : Int) → Un (u + 25) B' → Q (.inl (.int (gi 1))) I' J' B') :
    ∀ (d i : Nat) (I : gI) (J : gJ) (B : gB) (c w : Nat), i + d = (f 0).toNat → Ru f I J B → I 48 0 0 1 = gi (a : Int) → Un (u + 5 * i) B → c ≤ 40 * i → w ≤ 240 * i → gG E 156 88 [(0, .inr (3, 0, 0)), (1, .inr (49, 0, 0)), (2, .inl (.int (gi t))), (3, .inl (.int (gi (i : Int))))] [] I J B c w Q X
  | 0, i, I, J, B, c, w, hi, hR, hd, hU, hc, hw => by
    have h0 := hR.1.1.1
    have h5 := hR.1.2
    refine s_L_solutions_88 ?_
    rw [hR.2.2.2.2.1, gi_le (by omega) (by omega) (by omega) (by omega)]
    refine ⟨fun _ => ⟨⟨by omega, by omega⟩, ?_⟩, fun z => by omega⟩
    refine qok (c_isSolvable hR.s) rfl fun I1 J1 q1 j1 => ?_
    have hR1 := hR.q q1 j1
    have e1 : gi (rM (some f) fun f => bI (svF f ((f 0).toNat - rkF f) (rkF f))) = gi 1 := by
      have : rkF f = (f 0).toNat := of_decide_eq_true hr
      show gi (bI (svF f ((f 0).toNat - rkF f) (rkF f))) = gi 1
      rw [this, Nat.sub_self]
      rfl
    rw [e1]
    refine ⟨fun z => absurd z (by decide), fun _ => ⟨⟨by omega, by omega⟩, ?_⟩⟩
    refine z_thr (j := 2) (by decide) (fun Q X k2 => e_L_calls_13 ⟨⟨by decide, by decide⟩, qno (c_kernel (by decide) (by decide) hR1.s) (by show (if _ then _ else _) = 3; rw [if_pos ⟨by omega, by omega⟩, if_pos hr]) k2⟩) fun I2 J2 q2 j2 => ?_
    have hR2 := hR1.q q2 j2
    exact ⟨fun z => absurd rfl z, fun _ => ⟨Or.inr rfl, k I2 J2 B hR2 ((q2 48 0 0 1 (by unfold KQ; omega)).trans ((q1 48 0 0 1 (by unfold KQ; omega)).trans hd)) (fun m h1 h2 => hU m (by omega) h2)⟩⟩
  | d + 1, i, I, J, B, c, w, hi, hR, hd, hU, hc, hw => by
    have h0 := hR.1.1.1
    have h5 := hR.1.2
    refine s_L_solutions_88 ?_
    rw [hR.2.2.2.2.1, gi_le (by omega) (by omega) (by omega) (by omega)]
    refine ⟨fun z => by omega, fun _ => ⟨⟨by omega, by omega⟩, ?_⟩⟩
    refine qok (c_solution (by omega) (by omega) hR.s) (by show (if _ then _ else _) = 0; rw [if_pos ⟨by omega, by omega⟩, if_pos hr]) fun I1 J1 q1 j1 => ?_
    have hR1 := hR.q q1 j1
    have hbb : ∀ r, r < (f 0).toNat → (f (15 + r)).natAbs ≤ 999 := fun r hr2 => by
      have := hR.1.1.2.2.2.1 r (by omega)
      omega
    show gC _ _ _ _ _ _ _ _
    refine z_with51 (x := fun r => f (15 + r)) hR1.1 hR1.2.2.2.2 (by omega) (fun r hr2 => ⟨hR1.2.2.2.2.2.2.2.1 r hr2, hbb r hr2⟩) ?_
    refine z_sol_val hR1.1 hR1.2.2.2.2 hr (by omega) hbb t1 t2 ht ?_
    have e2 : gi (rM (some f) fun f => sdF f (fun i => f (15 + i)) ((i : Int)).toNat ((f 0).toNat)) = gi (sdF f (fun r => f (15 + r)) i (f 0).toNat) := rfl
    rw [e2]
    refine ⟨fun _ => ?_, fun z => absurd rfl z⟩
    refine z_sol_129 (a := a) (u := u + 5 * i) hr (by omega) t1 t2 ht (by omega) (by omega) (fun I J B c w a1 a2 a3 a4 a5 => z_sol_88 hr t1 t2 ht hu hu2 k d (i + 1) I J B c w (by omega) a1 a2 (fun m h1 h2 => a3 m (by omega) h2) (by omega) (by omega)) (f 0).toNat 0 I1 J1 B _ _ (by omega) hR1 ((q1 48 0 0 1 (by unfold KQ; omega)).trans hd) (fun m h1 h2 => hU m (by omega) h2) (by omega) (by omega)
end SO
