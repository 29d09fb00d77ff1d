section ZY
variable {E : gEn} {Q : gQt} {X : gXt} {I : gI} {J : gJ} {B : gB} {c w : Nat} {p : Int} {f : Nat → Int}
/-! ===== the reference: are the fractions exact ===== -/
def FX (J J' : gJ) : Prop := ∀ a b d, a ≠ 31 → a ≠ 44 → a ≠ 45 → J' a b d = J a b d
theorem FX.rf {J : gJ} : FX J J := fun _ _ _ _ _ _ => rfl
theorem FX.tr {J J' J2 : gJ} (h : FX J J') (h2 : FX J' J2) : FX J J2 := fun a b d h3 h4 h5 => (h2 a b d h3 h4 h5).trans (h a b d h3 h4 h5)
def Fsm (f : Nat → Int) (J : gJ) (i : Nat) : Prop := ∀ j, j < i → frac f j = some (ft f j, fb f j) ∧ J 44 0 j = gj (ft f j) ∧ J 45 0 j = gj (fb f j)
theorem gsi {r0 i : Nat} (h : r0 + i < 408) : vp_in (gi (r0 : Int) + gi (i : Int)) 408 ∧ Int32.toNatClampNeg (gi (r0 : Int) + gi (i : Int)) = r0 + i := by
  rw [gi_add, show ((r0 : Int) + (i : Int)) = ((r0 + i : Nat) : Int) from rfl, gi_c (by omega) (by omega), gtn]
  exact ⟨gvp (by omega) (by omega) (by decide), rfl⟩
theorem z_xr {a : Int} {i : Nat} (hv : Vf f) (hM : Mrow f I) (hi : i < (f 0).toNat) (ha1 : 1 ≤ a) (ha2 : a ≤ 1000000000) (hF : Fsm f J (f 0).toNat)
    (h1 : gj (rsF f a i (f 0).toNat) = gj (a * f (15 + i)) → gG E 225 78 [(0, .inr (31, 0, 0)), (1, .inl (.long (gj a))), (3, .inl (.int (gi ((i + 1 : Nat) : Int))))] [] I J B c w Q X) (h2 : ¬ gj (rsF f a i (f 0).toNat) = gj (a * f (15 + i)) → Q (.inl (.int (gi 0))) I J B) :
    ∀ d j : Nat, j + d = (f 0).toNat → gG E 225 94 [(0, .inr (31, 0, 0)), (1, .inl (.long (gj a))), (3, .inl (.int (gi i))), (4, .inl (.long (gj (rsF f a i j)))), (6, .inl (.int (gi j)))] [] I J B c w Q X
  | 0, j, hj => by
    have hn := hv.1
    have hs := hv.2.2.2.1 i (by omega)
    obtain rfl : j = (f 0).toNat := hj
    obtain ⟨g1, g2⟩ := gsi (r0 := 15) (i := i) (by omega)
    refine s_X8_isExactNow_94 ⟨gvp (by decide) (by decide) (by decide), ?_⟩
    rw [hM 0 (by decide), gi_le (by omega) (by omega) (by omega) (by omega)]
    refine ⟨fun _ => ⟨g1, ?_⟩, fun h => by omega⟩
    rw [show (gi 15 + gi (i : Int)) = (gi ((15 : Nat) : Int) + gi (i : Int)) from rfl, g2, hM (15 + i) (by omega), gij (by omega) (by omega), gj_mul, lc_eqx, gi_add, Int.mul_comm (f (15 + i)) a]
    exact ⟨h1, fun h => ⟨Or.inl rfl, h2 h⟩⟩
  | d + 1, j, hj => by
    have hn := hv.1
    obtain ⟨f1, f2, f3⟩ := hF j (by omega)
    obtain ⟨b1, b2, b3, b4⟩ := frac_b hv (by omega) f1
    have hb := dg_b hv.2.2.1 ((i : Int) - (j : Int))
    have p1 : vp_in (gi (j : Int)) 7 := gvp (by omega) (by omega) (by decide)
    refine s_X8_isExactNow_94 ⟨gvp (by decide) (by decide) (by decide), ?_⟩
    rw [hM 0 (by decide), gi_le (by omega) (by omega) (by omega) (by omega)]
    refine ⟨fun h => by omega, fun _ => z_ent hM (by omega) (by omega) ⟨p1, p1, ?_⟩⟩
    rw [gi_c (by omega) (by omega), gtn, f3, f2, gj_eq (by omega) (by omega) (by decide) (by decide), gij (by omega) (by omega), gj_div (by omega) (by omega) (by omega) (by omega), gj_mul, gj_mul, gj_add, gi_add]
    refine ⟨by omega, ?_⟩
    have hh := z_xr hv hM hi ha1 ha2 hF h1 h2 d (j + 1) (by omega)
    rw [show rsF f a i (j + 1) = rsF f a i j + dg f ((i : Int) - (j : Int)) * ft f j * a.tdiv (fb f j) from by
      show rsF f a i j + dg f ((i : Int) - (j : Int)) * a.tdiv (fb f j) * ft f j = _
      rw [Int.mul_right_comm]] at hh
    exact hh
theorem z_xl {a : Int} (hv : Vf f) (hM : Mrow f I) (ha1 : 1 ≤ a) (ha2 : a ≤ 1000000000) (hF : Fsm f J (f 0).toNat) (h : exB f = rwB f a (f 0).toNat 0) (k : Q (.inl (.int (gi (bI (exB f))))) I J B) :
    ∀ d i : Nat, i + d = (f 0).toNat → rwB f a d i = rwB f a (f 0).toNat 0 → gG E 225 78 [(0, .inr (31, 0, 0)), (1, .inl (.long (gj a))), (3, .inl (.int (gi i)))] [] I J B c w Q X
  | 0, i, hi, hw => by
    have hn := hv.1
    refine s_X8_isExactNow_78 ⟨gvp (by decide) (by decide) (by decide), ?_⟩
    rw [hM 0 (by decide), gi_le (by omega) (by omega) (by omega) (by omega)]
    refine ⟨fun _ => ⟨Or.inr rfl, ?_⟩, fun h1 => by omega⟩
    rw [h, ← hw] at k
    exact k
  | d + 1, i, hi, hw => by
    have hn := hv.1
    refine s_X8_isExactNow_78 ⟨gvp (by decide) (by decide) (by decide), ?_⟩
    rw [hM 0 (by decide), gi_le (by omega) (by omega) (by omega) (by omega)]
    rw [rwB_s] at hw
    refine ⟨fun h1 => by omega, fun _ => z_xr hv hM (by omega) ha1 ha2 hF (fun h1 => ?_) (fun h1 => ?_) (f 0).toNat 0 (by omega)⟩
    · rw [if_pos h1] at hw
      exact z_xl hv hM ha1 ha2 hF h k d (i + 1) (by omega) hw
    · rw [if_neg h1] at hw
      rw [h, ← hw] at k
      exact k
theorem z_xs (hv : Vf f) (hM : Mrow f I) (k : ∀ J', FX J J' → Q (.inl (.int (gi (bI (exB f))))) I J' B) :
    ∀ (d i : Nat) (a : Int) (J' : gJ), i + d = (f 0).toNat → 1 ≤ a → a ≤ 1000000000 → FX J J' → Fsm f J' i → lcG f d i a = lcG f (f 0).toNat 0 1 → gG E 225 4 [(0, .inr (31, 0, 0)), (1, .inl (.long (gj a))), (3, .inl (.int (gi i)))] [] I J' B c w Q X
  | 0, i, a, J', hi, ha1, ha2, hFF, hF, hl => by
    have hn := hv.1
    refine s_X8_isExactNow_4 ⟨gvp (by decide) (by decide) (by decide), ?_⟩
    rw [hM 0 (by decide), gi_le (by omega) (by omega) (by omega) (by omega)]
    refine ⟨fun _ => ?_, fun h1 => by omega⟩
    obtain rfl : i = (f 0).toNat := hi
    have he : exB f = rwB f a (f 0).toNat 0 := by
      unfold exB
      rw [← hl]
      rfl
    exact z_xl hv hM ha1 ha2 hF he (k J' hFF) (f 0).toNat 0 (by omega) rfl
  | d + 1, i, a, J', hi, ha1, ha2, hFF, hF, hl => by
    have hn := hv.1
    refine s_X8_isExactNow_4 ⟨gvp (by decide) (by decide) (by decide), ?_⟩
    rw [hM 0 (by decide), gi_le (by omega) (by omega) (by omega) (by omega)]
    refine ⟨fun h1 => by omega, fun _ => z_ff hv hM (by omega) ?_⟩
    have p1 : vp_in (gi (i : Int)) 7 := gvp (by omega) (by omega) (by decide)
    unfold frM
    cases hfr : frac f i with
    | none =>
      rw [lcG_n hfr] at hl
      have he : exB f = false := by
        unfold exB
        rw [← hl]
      have k2 := k J' hFF
      rw [he] at k2
      exact ⟨fun h1 => absurd rfl h1, fun _ => ⟨Or.inl rfl, k2⟩⟩
    | some z =>
      obtain ⟨t, b⟩ := z
      rw [lcG_y hfr] at hl
      obtain ⟨b1, b2, b3, b4⟩ := frac_b hv (by omega) hfr
      obtain ⟨⟨l3, l4⟩, -, l1, l2⟩ := lc_bd ha1 ha2 b3 b4
      refine ⟨fun _ => ⟨p1, p1, ?_⟩, fun h1 => absurd h1 (by decide)⟩
      rw [gi_c (by omega) (by omega), gtn, show (gUJ (gUJ J' 31 0 28 (gj t)) 31 0 29 (gj b)) 31 0 29 = gj b from if_pos ⟨rfl, rfl, rfl⟩, show (gUJ (gUJ J' 31 0 28 (gj t)) 31 0 29 (gj b)) 31 0 28 = gj t from (if_neg (fun h => absurd h.2.2 (by decide))).trans (if_pos ⟨rfl, rfl, rfl⟩)]
      refine z_com (by omega) (by omega) (by omega) (by omega) ?_
      show ¬ gj _ = gj 0 ∧ (lg_cmp _ (gj 1000000000) ≤ gi 0 → _) ∧ (¬ lg_cmp _ (gj 1000000000) ≤ gi 0 → _)
      rw [show (gUJ (gUJ (gUJ (gUJ J' 31 0 28 (gj t)) 31 0 29 (gj b)) 44 0 i (gj t)) 45 0 i (gj b)) 31 0 29 = gj b from (if_neg (fun h => absurd h.1 (by decide))).trans ((if_neg (fun h => absurd h.1 (by decide))).trans (if_pos ⟨rfl, rfl, rfl⟩)), gj_div (by omega) (by omega) (by omega) (by omega), gj_mul, lc_le (by omega) (by omega) (by decide) (by decide), gj_eq (by omega) (by omega) (by decide) (by decide), gi_add]
      have hF2 : FX J (gUJ (gUJ (gUJ (gUJ J' 31 0 28 (gj t)) 31 0 29 (gj b)) 44 0 i (gj t)) 45 0 i (gj b)) := fun a b d h1 h2 h3 => by
        rw [gUJ_at, if_neg (fun h => h3 h.1), gUJ_at, if_neg (fun h => h2 h.1), gUJ_at, if_neg (fun h => h1 h.1), gUJ_at, if_neg (fun h => h1 h.1)]
        exact hFF a b d h1 h2 h3
      refine ⟨by omega, fun h1 => ?_, fun h1 => ⟨Or.inl rfl, ?_⟩⟩
      · refine z_xs hv hM k d (i + 1) _ _ (by omega) l1 h1 hF2 (fun j hj => ?_) ?_
        · by_cases hji : j = i
          · subst hji
            have e1 : ft f j = t := by unfold ft; rw [hfr]; rfl
            have e2 : fb f j = b := by unfold fb; rw [hfr]; rfl
            rw [e1, e2]
            refine ⟨hfr, ?_, if_pos ⟨rfl, rfl, rfl⟩⟩
            rw [gUJ_at, if_neg (fun h => absurd h.1 (by decide)), gUJ_at, if_pos ⟨rfl, rfl, rfl⟩]
          · obtain ⟨g1, g2, g3⟩ := hF j (by omega)
            refine ⟨g1, ?_, ?_⟩
            · rw [gUJ_at, if_neg (fun h => absurd h.1 (by decide)), gUJ_at, if_neg (fun h => hji h.2.2), gUJ_at, if_neg (fun h => absurd h.1 (by decide)), gUJ_at, if_neg (fun h => absurd h.1 (by decide))]
              exact g2
            · rw [gUJ_at, if_neg (fun h => hji h.2.2), gUJ_at, if_neg (fun h => absurd h.1 (by decide)), gUJ_at, if_neg (fun h => absurd h.1 (by decide)), gUJ_at, if_neg (fun h => absurd h.1 (by decide))]
              exact g3
        · rw [← hl]
          exact (if_pos h1).symm
      · have he : exB f = false := by
          unfold exB
          rw [← hl]
          show (match (if _ ≤ 1000000000 then _ else none) with | none => false | some a => rwB f a (f 0).toNat 0) = false
          rw [if_neg h1]
        have k2 := k _ hF2
        rw [he] at k2
        exact k2
theorem z_ex (hv : Vf f) (hM : Mrow f I) (k : ∀ J', FX J J' → Q (.inl (.int (gi (bI (exB f))))) I J' B) : gC E 225 [.inr (31, 0, 0)] I J B Q X :=
  e_X8_isExactNow (z_xs hv hM k (f 0).toNat 0 1 J (by omega) (by decide) (by decide) FX.rf (fun j hj => absurd hj (Nat.not_lt_zero j)) rfl)
end ZY
