/-- Euclid's way down to a small rest -/
def euF (m : Int) : Nat → Int → Int → Int → Int → Int × Int
  | 0, _, s, _, v => (s, v)
  | d + 1, r, s, u, v => if m < 2 * s * s then euF m d s (r % s) v (u - r / s * v) else (s, v)
def EI (m r s u v : Int) : Prop := 0 ≤ s ∧ s < r ∧ r ≤ m ∧ ((0 ≤ v ∧ u ≤ 0 ∧ r * v - s * u = m) ∨ (v ≤ 0 ∧ 0 ≤ u ∧ s * u - r * v = m))
theorem EI.nx {m r s u v : Int} (h : EI m r s u v) (h0 : 0 < s) : EI m s (r % s) v (u - r / s * v) := by
  obtain ⟨h1, h2, h3, h4⟩ := h
  have a1 := Int.emod_nonneg r (show s ≠ 0 by omega)
  have a2 := Int.emod_lt_of_pos r h0
  have a3 : s * (r / s) + r % s = r := Int.mul_ediv_add_emod r s
  have a4 : 0 ≤ r / s := Int.ediv_nonneg (by omega) h1
  refine ⟨a1, a2, by omega, ?_⟩
  generalize r / s = q at *
  generalize r % s = z at *
  subst a3
  rcases h4 with ⟨b1, b2, b3⟩ | ⟨b1, b2, b3⟩
  · refine Or.inr ⟨?_, b1, by grind⟩
    have := Int.mul_nonneg a4 b1
    omega
  · refine Or.inl ⟨?_, b1, by grind⟩
    have := Int.mul_nonneg a4 (show 0 ≤ -v by omega)
    rw [Int.mul_neg] at this
    omega
theorem EI.b {m r s u v : Int} (h : EI m r s u v) : -m ≤ v ∧ v ≤ m ∧ 0 ≤ s ∧ s < m ∧ (0 < s → -m ≤ u ∧ u ≤ m) := by
  obtain ⟨h1, h2, h3, h4⟩ := h
  have k1 : ∀ a b : Int, 1 ≤ a → 0 ≤ b → b ≤ a * b := fun a b ha hb => by
    have := Int.mul_le_mul_of_nonneg_right ha hb
    omega
  rcases h4 with ⟨b1, b2, b3⟩ | ⟨b1, b2, b3⟩
  · have c1 := k1 r v (by omega) b1
    have c2 : 0 ≤ s * (-u) := Int.mul_nonneg h1 (by omega)
    have c3 : 0 < s → -u ≤ s * (-u) := fun h => k1 s (-u) (by omega) (by omega)
    rw [Int.mul_neg] at c2 c3
    exact ⟨by omega, by omega, h1, by omega, fun h => by have := c3 h; omega⟩
  · have c1 := k1 r (-v) (by omega) (by omega)
    have c2 : 0 ≤ s * u := Int.mul_nonneg h1 b2
    have c3 : 0 < s → u ≤ s * u := fun h => k1 s u (by omega) b2
    rw [Int.mul_neg] at c1
    exact ⟨by omega, by omega, h1, by omega, fun h => by have := c3 h; omega⟩
theorem euF_EI {m : Int} : ∀ (d : Nat) (r s u v : Int), EI m r s u v → 0 ≤ m → ∃ r' u', EI m r' (euF m d r s u v).1 u' (euF m d r s u v).2
  | 0, r, s, u, v, h, _ => ⟨r, u, h⟩
  | d + 1, r, s, u, v, h, hm => by
    unfold euF
    split
    · rename_i hw
      have h0 : 0 < s := by
        have := h.1
        apply Classical.byContradiction
        intro hn
        have : s = 0 := by omega
        subst this
        omega
      exact euF_EI d _ _ _ _ (h.nx h0) hm
    · exact ⟨r, u, h⟩
theorem euF_ok {m : Int} (hm : 0 ≤ m) : ∀ (k d : Nat) (r s u v : Int), 0 ≤ s → s < r → r < 2 ^ k → 2 * k ≤ d → ¬ m < 2 * (euF m d r s u v).1 * (euF m d r s u v).1
  | 0, d, r, s, u, v, h1, h2, h3, _ => by
    rw [Int.pow_zero] at h3
    omega
  | k + 1, d, r, s, u, v, h1, h2, h3, hd => by
    obtain ⟨e, rfl⟩ : ∃ e, d = e + 2 := ⟨d - 2, by omega⟩
    unfold euF
    split
    · rename_i hw
      have h0 : 0 < s := by
        apply Classical.byContradiction
        intro hn
        have : s = 0 := by omega
        subst this
        omega
      have a1 := Int.emod_nonneg r (show s ≠ 0 by omega)
      have a2 := Int.emod_lt_of_pos r h0
      have a3 : s * (r / s) + r % s = r := Int.mul_ediv_add_emod r s
      have a4 : 1 ≤ r / s := (Int.le_ediv_iff_mul_le h0).mpr (by omega)
      have a5 := Int.mul_le_mul_of_nonneg_left a4 h1
      unfold euF
      split
      · rename_i hw2
        have h5 : 0 < r % s := by
          apply Classical.byContradiction
          intro hn
          have : r % s = 0 := by omega
          rw [this] at hw2
          omega
        have b1 := Int.emod_nonneg s (show r % s ≠ 0 by omega)
        have b2 := Int.emod_lt_of_pos s h5
        rw [Int.pow_succ] at h3
        exact euF_ok hm k e _ _ _ _ b1 b2 (by omega) (by omega)
      · assumption
    · assumption
theorem euF_wide {m X : Int} (h1 : 0 ≤ X) (h2 : X < m) (h3 : m ≤ 1000000000000) : ¬ m < 2 * (euF m 100 m X 0 1).1 * (euF m 100 m X 0 1).1 :=
  euF_ok (by omega) 40 100 m X 0 1 h1 h2 (by have : (2 : Int) ^ 40 = 1099511627776 := by decide
                                             omega) (by decide)
theorem wide_b {m s : Int} (h1 : 0 ≤ s) (h : ¬ m < 2 * s * s) (hm : m ≤ 1000000000000) : s ≤ 1000000 := by
  apply Classical.byContradiction
  intro hn
  have := Int.mul_le_mul (show 1000000 ≤ s by omega) (show 1000000 ≤ s by omega) (by decide) h1
  rw [Int.mul_assoc] at h
  omega
def mF (f : Nat → Int) : Int := f 1 ^ (f 36).toNat
def euX (f : Nat → Int) (i : Nat) : Int × Int := euF (mF f) 100 (mF f) (vX f i) 0 1
/-- the fraction of a component -/
def frac (f : Nat → Int) (i : Nat) : Option (Int × Int) :=
  if f 36 = 0 then none else if (euX f i).2 = 0 ∨ mF f < 2 * (euX f i).2 * (euX f i).2 ∨ (euX f i).2 % f 1 = 0 then none
  else some ((if (euX f i).2 < 0 then -(euX f i).1 else (euX f i).1).tdiv (Int.gcd (euX f i).1 (euX f i).2 : Nat), ((euX f i).2.natAbs : Int).tdiv (Int.gcd (euX f i).1 (euX f i).2 : Nat))
theorem Vf.m {f : Nat → Int} (h : Vf f) : 1 ≤ mF f ∧ mF f ≤ 1000000000000 := ⟨(pow_one h.p.1 _).2, h.pw.2⟩
theorem Vf.x {f : Nat → Int} (h : Vf f) {i : Nat} (hi : i < (f 0).toNat) : 0 ≤ vX f i ∧ vX f i < mF f := by
  rw [vX_T]
  exact vT_b h.p.1 _ 0 (fun j _ hj => h.dig (by omega) hi)
theorem Vf.eu {f : Nat → Int} (h : Vf f) {i : Nat} (hi : i < (f 0).toNat) : 0 ≤ (euX f i).1 ∧ (euX f i).1 ≤ 1000000 ∧ -1000000000000 ≤ (euX f i).2 ∧ (euX f i).2 ≤ 1000000000000 := by
  obtain ⟨h1, h2⟩ := h.m
  obtain ⟨h3, h4⟩ := h.x hi
  obtain ⟨r, u, h5⟩ := euF_EI 100 (mF f) (vX f i) 0 1 ⟨h3, h4, Int.le_refl _, Or.inl ⟨by decide, by decide, by omega⟩⟩ (by omega)
  obtain ⟨b1, b2, b3, b4, -⟩ := h5.b
  exact ⟨b3, wide_b b3 (euF_wide h3 h4 h2) h2, by show -1000000000000 ≤ (euX f i).2; have : (euX f i).2 = (euF (mF f) 100 (mF f) (vX f i) 0 1).2 := rfl; omega, by show (euX f i).2 ≤ 1000000000000; have : (euX f i).2 = (euF (mF f) 100 (mF f) (vX f i) 0 1).2 := rfl; omega⟩
def FF (J J' : gJ) : Prop := ∀ a b d, a ≠ 26 → a ≠ 27 → J' a b d = J a b d
theorem FF.rf {J : gJ} : FF J J := fun _ _ _ _ _ => rfl
theorem FF.tr {J J' J2 : gJ} (h : FF J J') (h2 : FF J' J2) : FF J J2 := fun a b d h3 h4 => (h2 a b d h3 h4).trans (h a b d h3 h4)
theorem gcd_pos {a b : Int} (h : b ≠ 0) : 1 ≤ (Int.gcd a b : Nat) := Nat.pos_of_ne_zero (fun h2 => h (Int.gcd_eq_zero_iff.mp h2).2)
theorem gcd_le {a b : Int} (h : b ≠ 0) : (Int.gcd a b : Nat) ≤ b.natAbs := Nat.le_of_dvd (by omega) (Nat.gcd_dvd_right _ _)
section ZK
variable {E : gEn} {Q : gQt} {X : gXt} {I : gI} {J : gJ} {B : gB} {c w : Nat} {n : Nat} {f : Nat → Int} {p : Int}
/-- what stands behind the search for a fraction -/
def frP (f : Nat → Int) (i : Nat) (Q : gQt) (I : gI) (J : gJ) (B : gB) : Prop := match frac f i with
  | none => Q (.inl (.int (gi 0))) I J B
  | some (t, b) => Q (.inl (.int (gi 1))) I (gUJ (gUJ J 26 0 i (gj t)) 27 0 i (gj b)) B
theorem z_find_l {i : Nat} {m : Int} (hm1 : 1 ≤ m) (hm2 : m ≤ 1000000000000) : ∀ (d : Nat) (r s u v : Int), d ≤ 100 → EI m r s u v →
    gG E 0 124 [(0, .inr (25, 0, 0)), (1, .inr (6, n, 0)), (2, .inl (.int (gi i))), (3, .inl (.long (gj m))), (7, .inl (.long (gj (euF m d r s u v).1))), (11, .inl (.long (gj (euF m d r s u v).2)))] [] I J B c w Q X →
    gG E 0 52 [(0, .inr (25, 0, 0)), (1, .inr (6, n, 0)), (2, .inl (.int (gi i))), (3, .inl (.long (gj m))), (5, .inl (.long (gj r))), (7, .inl (.long (gj s))), (9, .inl (.long (gj u))), (11, .inl (.long (gj v))), (13, .inl (.int (gi ((100 - d : Nat) : Int))))] [] I J B c w Q X
  | 0, r, s, u, v, hd, hE, h => by
    refine s2_X0_find_52 ⟨fun _ => h, fun h0 => absurd (Int32.le_refl _) h0⟩
  | d + 1, r, s, u, v, hd, hE, h => by
    refine s2_X0_find_52 ?_
    obtain ⟨b1, b2, b3, b4, b5⟩ := hE.b
    have hE2 := hE
    obtain ⟨c1, c2, c3, c4⟩ := hE2
    rw [gi_le (by decide) (by decide) (by omega) (by omega), lc_eq (by omega) (by omega) (by decide) (by decide), gj_eq (a := s) (by omega) (by omega) (by decide) (by decide), gj_div (by omega) (by omega) (by omega) (by omega)]
    unfold euF at h
    refine ⟨fun h0 => by omega, fun _ => ⟨fun h0 => ?_, fun h0 => ?_⟩⟩
    · rw [if_neg (by rw [h0]; omega)] at h
      exact h
    · refine z_large (by omega) (by omega) (by omega) hm2 ?_
      show (gi _ = gi 0 → _) ∧ (¬ gi _ = gi 0 → _)
      by_cases hw : m < 2 * s * s
      · rw [if_pos hw] at h
        rw [if_pos hw]
        refine ⟨fun h1 => absurd h1 (by decide), fun _ => ⟨h0, ?_⟩⟩
        rw [gj_mul, gj_sub, gj_mul, gj_sub, gi_add, tdm, Int.tmod_eq_emod_of_nonneg (by omega), Int.tdiv_eq_ediv_of_nonneg (by omega)]
        have hh := z_find_l hm1 hm2 d s (r % s) v (u - r / s * v) (by omega) (hE.nx (by omega)) h
        rw [show ((100 - (d + 1) : Nat) : Int) + 1 = ((100 - d : Nat) : Int) by omega]
        exact hh
      · rw [if_neg hw] at h
        rw [if_neg hw]
        exact ⟨fun _ => h, fun h1 => absurd rfl h1⟩
theorem z_find_e {i : Nat} (hv : Vf f) (h1 : I 6 n 0 1 = gi (f 1)) (hi : i < (f 0).toNat) (h36 : f 36 ≠ 0) (h : frP f i Q I J B) :
    gG E 0 124 [(0, .inr (25, 0, 0)), (1, .inr (6, n, 0)), (2, .inl (.int (gi i))), (3, .inl (.long (gj (mF f)))), (7, .inl (.long (gj (euX f i).1))), (11, .inl (.long (gj (euX f i).2)))] [] I J B c w Q X := by
  obtain ⟨e1, e2, e3, e4⟩ := hv.eu hi
  obtain ⟨m1, m2⟩ := hv.m
  have hp := hv.p
  have h0 := hv.1
  unfold frP frac at h
  rw [if_neg h36] at h
  generalize (euX f i).1 = s at *
  generalize (euX f i).2 = v at *
  refine s2_X0_find_124 ?_
  rw [lc_eq (by omega) (by omega) (by decide) (by decide)]
  refine ⟨fun hv0 => ⟨Or.inl rfl, ?_⟩, fun hv0 => ?_⟩
  · rw [if_pos (Or.inl hv0)] at h
    exact h
  · refine z_large (by omega) (by omega) (by omega) m2 ?_
    show (¬ gi _ = gi 0 → _) ∧ (gi _ = gi 0 → _)
    by_cases hw : mF f < 2 * v * v
    · rw [if_pos (Or.inr (Or.inl hw))] at h
      rw [if_pos hw]
      exact ⟨fun _ => ⟨Or.inl rfl, h⟩, fun h2 => absurd h2 (by decide)⟩
    · rw [if_neg hw]
      refine ⟨fun h2 => absurd rfl h2, fun _ => ?_⟩
      rw [h1, gij (by omega) (by omega), gj_eq (by omega) (by omega) (by decide) (by decide), gj_rem (by omega) (by omega) (by omega) (by omega)]
      have ht : (v.tmod (f 1) = 0) = (v % f 1 = 0) := propext (by rw [← Int.dvd_iff_tmod_eq_zero, ← Int.dvd_iff_emod_eq_zero])
      have hb1 := Int.tmod_lt_of_pos v (show 0 < f 1 by omega)
      have hb2 := Int.lt_tmod_of_pos v (show 0 < f 1 by omega)
      rw [lc_eq (by omega) (by omega) (by decide) (by decide), ht]
      refine ⟨by omega, fun hr => ?_, fun hr => ⟨Or.inl rfl, ?_⟩⟩
      · rw [if_neg (fun hh => hh.elim hv0 (fun hh => hh.elim hw hr))] at h
        have hg := gcd_pos (a := s) hv0
        have hg2 := gcd_le (a := s) hv0
        have hp1 : vp_in (gi (i : Int)) 7 := gvp (by omega) (by omega) (by decide)
        rw [lc_ge (by omega) (by omega) (by decide) (by decide), gi_c (by omega) (by omega), gtn]
        refine ⟨fun hv1 => ?_, fun hv1 => ?_⟩
        · refine z_gcd (by omega) (by omega) (by omega) (by omega) ?_
          show (¬ lg_cmp (gj _) (gj 0) = gi 0 → _) ∧ _
          rw [lc_eq (by omega) (by omega) (by decide) (by decide)]
          refine ⟨fun hg0 => ?_, fun hg0 => by omega⟩
          rw [gj_eq (by omega) (by omega) (by decide) (by decide), gj_div (by omega) (by omega) (by omega) (by omega), gj_div (by omega) (by omega) (by omega) (by omega)]
          rw [if_neg (by omega), show (v.natAbs : Int) = v by omega] at h
          exact ⟨hg0, hp1, hg0, hp1, Or.inr rfl, h⟩
        · refine z_gcd (by omega) (by omega) (by omega) (by omega) ?_
          show (¬ lg_cmp (-(gj _)) (gj 0) = gi 0 → _) ∧ (lg_cmp (-(gj _)) (gj 0) = gi 0 → _)
          rw [gj_neg, lc_eq (by omega) (by omega) (by decide) (by decide)]
          refine ⟨fun hg0 => ?_, fun hg0 => by omega⟩
          rw [gj_eq (by omega) (by omega) (by decide) (by decide), gj_div (by omega) (by omega) (by omega) (by omega), gj_div (by omega) (by omega) (by omega) (by omega)]
          rw [if_pos (by omega), show (v.natAbs : Int) = -v by omega, Int.neg_tdiv, Int.neg_tdiv] at h
          rw [Int.tdiv_neg, Int.tdiv_neg]
          exact ⟨hg0, hp1, hg0, hp1, Or.inr rfl, h⟩
      · rw [if_pos (Or.inr (Or.inr hr))] at h
        exact h
theorem z_find {i : Nat} (hv : Vf f) (hR : Rst f I J n) (hi : i < (f 0).toNat) (h : frP f i Q I J B) : gC E 0 [.inr (25, 0, 0), .inr (6, n, 0), .inl (.int (gi i))] I J B Q X := by
  have h0 := hv.1
  have hp := hv.p
  have hw := hv.pw
  have h39 := pow_lim hp.1 hw.2
  obtain ⟨m1, m2⟩ := hv.m
  obtain ⟨x1, x2⟩ := hv.x hi
  refine e_X0_find ?_
  rw [hR.2.1, hR.1.2.1, hR.2.2.1, gi_c (by omega) (by omega), gtn, hR.2.2.2.1 i hi, gi_eq (by omega) (by omega) (by decide) (by decide), gi_lt (by omega) (by omega) (by decide) (by decide), gi_lt (by omega) (by omega) (by decide) (by decide), gi_lt (by omega) (by omega) (by decide) (by decide)]
  refine ⟨fun h36 => ⟨Or.inl rfl, ?_⟩, fun h36 => ⟨fun h1 => by omega, fun _ => ⟨fun h1 => by omega, fun _ => ⟨fun _ => ⟨gvp (by omega) (by omega) (by decide), ?_⟩, fun h1 => by omega⟩⟩⟩⟩
  · unfold frP frac at h
    rw [if_pos h36] at h
    exact h
  · exact z_find_l m1 m2 100 (mF f) (vX f i) 0 1 (Nat.le_refl _) ⟨x1, x2, Int.le_refl _, Or.inl ⟨by decide, by decide, by omega⟩⟩ (z_find_e hv hR.1.2.1 hi h36 h)
end ZK
