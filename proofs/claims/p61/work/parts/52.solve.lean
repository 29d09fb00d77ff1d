theorem frac_b {f : Nat → Int} {i : Nat} {t b : Int} (hv : Vf f) (hi : i < (f 0).toNat) (h : frac f i = some (t, b)) : -1000000 ≤ t ∧ t ≤ 1000000 ∧ 1 ≤ b ∧ b ≤ 1000000 := by
  obtain ⟨e1, e2, e3, e4⟩ := hv.eu hi
  obtain ⟨m1, m2⟩ := hv.m
  unfold frac at h
  split at h
  · cases h
  · split at h
    · cases h
    · rename_i hn
      have hv0 : (euX f i).2 ≠ 0 := fun z => hn (Or.inl z)
      have hw : ¬ mF f < 2 * (euX f i).2 * (euX f i).2 := fun z => hn (Or.inr (Or.inl z))
      have hg := gcd_pos (a := (euX f i).1) hv0
      have hg2 := gcd_le (a := (euX f i).1) hv0
      generalize (euX f i).1 = s at *
      generalize (euX f i).2 = v at *
      have hw2 : (v.natAbs : Int) ≤ 1000000 := wide_b (m := mF f) (by omega) (by rw [Int.mul_assoc, Int.natAbs_mul_self', ← Int.mul_assoc]; exact hw) m2
      cases h
      have k1 : ∀ z : Int, -1000000 ≤ z → z ≤ 1000000 → -1000000 ≤ z.tdiv ((Int.gcd s v : Nat) : Int) ∧ z.tdiv ((Int.gcd s v : Nat) : Int) ≤ 1000000 := fun z z1 z2 => by
        have := Int.natAbs_tdiv_le_natAbs z ((Int.gcd s v : Nat) : Int)
        omega
      obtain ⟨a1, a2⟩ := k1 (if v < 0 then -s else s) (by split <;> omega) (by split <;> omega)
      refine ⟨a1, a2, ?_, (k1 _ (by omega) hw2).2⟩
      rw [Int.tdiv_eq_ediv_of_nonneg (by omega)]
      exact (Int.le_ediv_iff_mul_le (by omega)).mpr (by omega)
def ft (f : Nat → Int) (j : Nat) : Int := ((frac f j).getD (0, 1)).1
def fb (f : Nat → Int) (j : Nat) : Int := ((frac f j).getD (0, 1)).2
/-- the least common multiple of the denominators, if it isn't too large -/
def lcG (f : Nat → Int) : Nat → Nat → Int → Option Int
  | 0, _, a => some a
  | d + 1, i, a => match frac f i with
    | none => none
    | some (_, b) => if a.tdiv (Int.gcd a b : Nat) * b ≤ 1000000000 then lcG f d (i + 1) (a.tdiv (Int.gcd a b : Nat) * b) else none
def rsF (f : Nat → Int) (a : Int) (i : Nat) : Nat → Int
  | 0 => 0
  | j + 1 => rsF f a i j + dg f ((i : Int) - (j : Int)) * a.tdiv (fb f j) * ft f j
def rwB (f : Nat → Int) (a : Int) : Nat → Nat → Bool
  | 0, _ => true
  | d + 1, i => if gj (rsF f a i (f 0).toNat) = gj (a * f (15 + i)) then rwB f a d (i + 1) else false
def exB (f : Nat → Int) : Bool := match lcG f (f 0).toNat 0 1 with
  | none => false
  | some a => rwB f a (f 0).toNat 0
theorem rwB_s {f : Nat → Int} {a : Int} {d i : Nat} : rwB f a (d + 1) i = if gj (rsF f a i (f 0).toNat) = gj (a * f (15 + i)) then rwB f a d (i + 1) else false := rfl
theorem lcG_n {f : Nat → Int} {a : Int} {d i : Nat} (h : frac f i = none) : lcG f (d + 1) i a = none := by
  show (match frac f i with | none => none | some (_, b) => _) = _
  rw [h]
theorem lcG_y {f : Nat → Int} {a t b : Int} {d i : Nat} (h : frac f i = some (t, b)) : lcG f (d + 1) i a = if a.tdiv (Int.gcd a b : Nat) * b ≤ 1000000000 then lcG f d (i + 1) (a.tdiv (Int.gcd a b : Nat) * b) else none := by
  show (match frac f i with | none => none | some (_, b) => _) = _
  rw [h]
def bI (b : Bool) : Int := if b then 1 else 0
theorem lc_bd {a b : Int} (h1 : 1 ≤ a) (h2 : a ≤ 1000000000) (h3 : 1 ≤ b) (h4 : b ≤ 1000000) : (1 ≤ (Int.gcd a b : Nat) ∧ ((Int.gcd a b : Nat) : Int) ≤ 1000000) ∧ (1 ≤ a.tdiv (Int.gcd a b : Nat) ∧ a.tdiv (Int.gcd a b : Nat) ≤ 1000000000) ∧ 1 ≤ a.tdiv (Int.gcd a b : Nat) * b ∧ a.tdiv (Int.gcd a b : Nat) * b ≤ 1000000000000000 := by
  have g1 := gcd_pos (a := a) (show b ≠ 0 by omega)
  have g2 := gcd_le (a := a) (show b ≠ 0 by omega)
  have g3 : (Int.gcd a b : Nat) ≤ a.natAbs := Nat.le_of_dvd (by omega) (Nat.gcd_dvd_left _ _)
  have d1 : 1 ≤ a.tdiv (Int.gcd a b : Nat) := by
    rw [Int.tdiv_eq_ediv_of_nonneg (by omega)]
    exact (Int.le_ediv_iff_mul_le (by omega)).mpr (by omega)
  have d2 := Int.natAbs_tdiv_le_natAbs a ((Int.gcd a b : Nat) : Int)
  have d3 := Int.mul_le_mul d1 h3 (by decide) (by omega)
  have d4 := Int.mul_le_mul (show a.tdiv (Int.gcd a b : Nat) ≤ 1000000000 by omega) h4 (by omega) (by decide)
  exact ⟨⟨g1, by omega⟩, ⟨d1, by omega⟩, by omega, by omega⟩
section ZL
variable {E : gEn} {Q : gQt} {X : gXt} {I : gI} {J : gJ} {B : gB} {c w : Nat} {n : Nat} {f : Nat → Int} {p : Int}
theorem z_lcm {a b : Int} (h1 : 1 ≤ a) (h2 : a ≤ 1000000000) (h3 : 1 ≤ b) (h4 : b ≤ 1000000) (h : Q (.inl (.long (gj (a.tdiv (Int.gcd a b : Nat) * b)))) I J B) : gC E 5 [.inl (.long (gj a)), .inl (.long (gj b))] I J B Q X := by
  obtain ⟨⟨g1, g2⟩, -, -, -⟩ := lc_bd h1 h2 h3 h4
  refine e_X0_commonMultiple (z_gcd (by omega) (by omega) (by omega) (by omega) ?_)
  show (¬ lg_cmp (gj _) (gj 0) = gi 0 → _) ∧ (lg_cmp (gj _) (gj 0) = gi 0 → _)
  rw [lc_eq (by omega) (by omega) (by decide) (by decide), gj_eq (by omega) (by omega) (by decide) (by decide), gj_div (by omega) (by omega) (by omega) (by omega), gj_mul]
  exact ⟨fun h0 => ⟨h0, h⟩, fun h0 => by omega⟩
/-- the fractions that stand -/
def Fst (f : Nat → Int) (J : gJ) (i : Nat) : Prop := ∀ j, j < i → frac f j = some (ft f j, fb f j) ∧ J 26 0 j = gj (ft f j) ∧ J 27 0 j = gj (fb f j)
theorem z_row_l {a : Int} {i : Nat} (hv : Vf f) (h0 : I 6 n 0 0 = gi (f 0)) (hd : Dia f I n) (hi : i < (f 0).toNat) (ha1 : 1 ≤ a) (ha2 : a ≤ 1000000000) (hF : Fst f J (f 0).toNat) (h : Q (.inl (.long (gj (rsF f a i (f 0).toNat)))) I J B) :
    ∀ d j : Nat, j + d = (f 0).toNat → gG E 2 6 [(0, .inr (25, 0, 0)), (1, .inr (6, n, 0)), (2, .inl (.int (gi i))), (3, .inl (.long (gj a))), (5, .inl (.long (gj (rsF f a i j)))), (7, .inl (.int (gi j)))] [] I J B c w Q X
  | 0, j, hj => by
    have hn := hv.1
    obtain rfl : j = (f 0).toNat := hj
    refine s_X0_rowTimes_6 ?_
    rw [h0, gi_le (by omega) (by omega) (by omega) (by omega)]
    exact ⟨fun _ => h, fun h1 => by omega⟩
  | d + 1, j, hj => by
    have hn := hv.1
    obtain ⟨f1, f2, f3⟩ := hF j (by omega)
    obtain ⟨b1, b2, b3, b4⟩ := frac_b hv (by omega) f1
    have hb := hd.dg (k := (i : Int) - (j : Int)) (by omega) (by omega)
    refine s_X0_rowTimes_6 ?_
    have p1 : vp_in (gi (j : Int)) 7 := gvp (by omega) (by omega) (by decide)
    rw [h0, gi_le (by omega) (by omega) (by omega) (by omega), gi_le (by decide) (by decide) (by omega) (by omega), gi_c (by omega) (by omega), gtn, f3, lc_eq (by omega) (by omega) (by decide) (by decide), gi_sub]
    refine ⟨fun h1 => by omega, fun _ => ⟨fun h1 => by omega, fun _ => ⟨p1, fun h1 => by omega, fun h1 => z_along hd (by omega) (by omega) ?_⟩⟩⟩
    show vp_in _ 7 ∧ _
    rw [f3, f2, gj_eq (by omega) (by omega) (by decide) (by decide), gij (by omega) (by omega), gj_div (by omega) (by omega) (by omega) (by omega), gj_mul, gj_mul, gj_add, gi_add]
    exact ⟨p1, h1, p1, z_row_l hv h0 hd hi ha1 ha2 hF h d (j + 1) (by omega)⟩
theorem z_row {a : Int} {i : Nat} (hv : Vf f) (h0 : I 6 n 0 0 = gi (f 0)) (hd : Dia f I n) (hi : i < (f 0).toNat) (ha1 : 1 ≤ a) (ha2 : a ≤ 1000000000) (hF : Fst f J (f 0).toNat) (h : Q (.inl (.long (gj (rsF f a i (f 0).toNat)))) I J B) : gC E 2 [.inr (25, 0, 0), .inr (6, n, 0), .inl (.int (gi i)), .inl (.long (gj a))] I J B Q X :=
  e_X0_rowTimes (z_row_l hv h0 hd hi ha1 ha2 hF h (f 0).toNat 0 (by omega))
theorem Rst.dia (hv : Vf f) (h : Rst f I J n) : Dia f I n := fun k hk => ⟨h.1.2.2.1 k hk, hv.2.2.1 k hk⟩
theorem z_solve2_l {a : Int} {J0 : gJ} (hv : Vf f) (hR : Rst f I J n) (ha1 : 1 ≤ a) (ha2 : a ≤ 1000000000) (hF : Fst f J (f 0).toNat) (h : exB f = rwB f a (f 0).toNat 0) (k : Q (.inl (.int (gi (bI (exB f))))) I J B) :
    ∀ d i : Nat, i + d = (f 0).toNat → rwB f a d i = rwB f a (f 0).toNat 0 → gG E 1 63 [(0, .inr (25, 0, 0)), (1, .inr (6, n, 0)), (2, .inl (.long (gj a))), (4, .inl (.int (gi i)))] [] I J B c w Q X
  | 0, i, hi, hw => by
    have hn := hv.1
    refine s_X0_solve_63 ?_
    rw [hR.1.1, gi_le (by omega) (by omega) (by omega) (by omega)]
    refine ⟨fun _ => ⟨Or.inr rfl, ?_⟩, fun h1 => by omega⟩
    rw [h, ← hw] at k
    exact k
  | d + 1, i, hi, hw => by
    have hn := hv.1
    refine s_X0_solve_63 ?_
    rw [hR.1.1, gi_le (by omega) (by omega) (by omega) (by omega)]
    refine ⟨fun h1 => by omega, fun _ => z_row hv hR.1.1 (hR.dia hv) (by omega) ha1 ha2 hF ?_⟩
    show vp_in _ 7 ∧ (lg_cmp (gj _) _ = gi 0 → _) ∧ (¬ lg_cmp (gj _) _ = gi 0 → _)
    have hs := hv.2.2.2.1 i (by omega)
    rw [gi_c (by omega) (by omega), gtn, hR.1.2.2.2.1 i (by omega), gij (by omega) (by omega), gj_mul, lc_eqx, gi_add]
    rw [rwB_s] at hw
    refine ⟨gvp (by omega) (by omega) (by decide), fun h1 => ?_, fun h1 => ⟨Or.inl rfl, ?_⟩⟩
    · rw [if_pos h1] at hw
      exact z_solve2_l (J0 := J0) hv hR ha1 ha2 hF h k d (i + 1) (by omega) hw
    · rw [if_neg h1] at hw
      rw [h, ← hw] at k
      exact k
theorem z_solve_l (hv : Vf f) (k : ∀ J', FF J J' → Q (.inl (.int (gi (bI (exB f))))) I J' B) :
    ∀ (d i : Nat) (a : Int) (J' : gJ), i + d = (f 0).toNat → 1 ≤ a → a ≤ 1000000000 → Rst f I J' n → FF J J' → Fst f J' i → lcG f d i a = lcG f (f 0).toNat 0 1 → gG E 1 5 [(0, .inr (25, 0, 0)), (1, .inr (6, n, 0)), (2, .inl (.long (gj a))), (4, .inl (.int (gi i)))] [] I J' B c w Q X
  | 0, i, a, J', hi, ha1, ha2, hR, hFF, hF, hl => by
    have hn := hv.1
    refine s_X0_solve_5 ?_
    rw [hR.1.1, gi_le (by omega) (by omega) (by omega) (by omega)]
    refine ⟨fun _ => ?_, fun h1 => by omega⟩
    obtain rfl : i = (f 0).toNat := hi
    have he : exB f = rwB f a (f 0).toNat 0 := by
      unfold exB
      rw [← hl]
      rfl
    exact z_solve2_l (J0 := J) hv hR ha1 ha2 hF he (k J' hFF) (f 0).toNat 0 (by omega) rfl
  | d + 1, i, a, J', hi, ha1, ha2, hR, hFF, hF, hl => by
    have hn := hv.1
    refine s_X0_solve_5 ?_
    rw [hR.1.1, gi_le (by omega) (by omega) (by omega) (by omega)]
    refine ⟨fun h1 => by omega, fun _ => z_find hv hR (by omega) ?_⟩
    have p1 : vp_in (gi (i : Int)) 7 := gvp (by omega) (by omega) (by decide)
    unfold frP
    cases hfr : frac f i with
    | none =>
      rw [lcG_n hfr] at hl
      have he : exB f = false := by
        unfold exB
        rw [← hl]
      have k2 := k J' hFF
      rw [he] at k2
      exact ⟨fun h1 => absurd rfl h1, fun _ => ⟨Or.inl rfl, k2⟩⟩
    | some z =>
      obtain ⟨t, b⟩ := z
      rw [lcG_y hfr] at hl
      obtain ⟨b1, b2, b3, b4⟩ := frac_b hv (by omega) hfr
      obtain ⟨-, -, l1, l2⟩ := lc_bd ha1 ha2 b3 b4
      refine ⟨fun _ => ⟨p1, ?_⟩, fun h1 => absurd h1 (by decide)⟩
      rw [gi_c (by omega) (by omega), gtn, show (gUJ (gUJ J' 26 0 i (gj t)) 27 0 i (gj b)) 27 0 i = gj b from if_pos ⟨rfl, rfl, rfl⟩]
      refine z_lcm ha1 ha2 b3 b4 ?_
      show (lg_cmp (gj _) (gj 1) < gi 0 → _) ∧ (¬ lg_cmp (gj _) (gj 1) < gi 0 → _)
      rw [lc_lt (by omega) (by omega) (by decide) (by decide), lc_le (by omega) (by omega) (by decide) (by decide), gi_add]
      have hF2 : FF J (gUJ (gUJ J' 26 0 i (gj t)) 27 0 i (gj b)) := fun a b d h1 h2 => by
        rw [gUJ_at, if_neg (fun h => h2 h.1), gUJ_at, if_neg (fun h => h1 h.1)]
        exact hFF a b d h1 h2
      refine ⟨fun h1 => by omega, fun _ => ⟨fun h1 => ?_, fun h1 => ⟨Or.inl rfl, ?_⟩⟩⟩
      · refine z_solve_l hv k d (i + 1) _ _ (by omega) l1 h1 (hR.to (fun _ _ _ _ => rfl) (fun a d ha => ?_)) hF2 (fun j hj => ?_) ?_
        · rw [gUJ_at, if_neg (fun h => by omega), gUJ_at, if_neg (fun h => by omega)]
        · by_cases hji : j = i
          · subst hji
            have e1 : ft f j = t := by unfold ft; rw [hfr]; rfl
            have e2 : fb f j = b := by unfold fb; rw [hfr]; rfl
            rw [e1, e2]
            refine ⟨hfr, ?_, if_pos ⟨rfl, rfl, rfl⟩⟩
            rw [gUJ_at, if_neg (fun h => absurd h.1 (by decide)), gUJ_at, if_pos ⟨rfl, rfl, rfl⟩]
          · obtain ⟨g1, g2, g3⟩ := hF j (by omega)
            refine ⟨g1, ?_, ?_⟩
            · rw [gUJ_at, if_neg (fun h => hji h.2.2), gUJ_at, if_neg (fun h => hji h.2.2)]
              exact g2
            · rw [gUJ_at, if_neg (fun h => hji h.2.2), gUJ_at, if_neg (fun h => hji h.2.2)]
              exact g3
        · rw [← hl]
          exact (if_pos h1).symm
      · have he : exB f = false := by
          unfold exB
          rw [← hl]
          show (match (if _ ≤ 1000000000 then _ else none) with | none => false | some a => rwB f a (f 0).toNat 0) = false
          rw [if_neg h1]
        have k2 := k _ hF2
        rw [he] at k2
        exact k2
theorem z_solve (hv : Vf f) (hR : Rst f I J n) (k : ∀ J', FF J J' → Q (.inl (.int (gi (bI (exB f))))) I J' B) : gC E 1 [.inr (25, 0, 0), .inr (6, n, 0)] I J B Q X :=
  e_X0_solve (z_solve_l hv k (f 0).toNat 0 1 J (by omega) (by decide) (by decide) hR FF.rf (fun j hj => absurd hj (Nat.not_lt_zero j)) rfl)
end ZL
