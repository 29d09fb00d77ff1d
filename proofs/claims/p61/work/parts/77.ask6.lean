def ub (j : Nat) : Nat → Int := fun i => if i = j then 1 else 0
theorem smF_ub {M : gMx} {n i j : Nat} : ∀ m, smF M (ub j) n i m = if j < m then M i (n + j) else 0
  | 0 => (if_neg (Nat.not_lt_zero j)).symm
  | m + 1 => by
    show smF M (ub j) n i m + M i (n + m) * ub j m = _
    rw [smF_ub m]
    unfold ub
    by_cases h1 : m = j
    · subst h1
      rw [if_neg (Nat.lt_irrefl m), if_pos rfl, if_pos (Nat.lt_succ_self m), Int.zero_add, Int.mul_one]
    · rw [if_neg h1, Int.mul_zero, Int.add_zero]
      by_cases h2 : j < m
      · rw [if_pos h2, if_pos (by omega)]
      · rw [if_neg h2, if_neg (by omega)]
theorem sd_iv {f : Nat → Int} {i j : Nat} (hv : Vf f) (hj : j < (f 0).toNat) : sdF f (ub j) i ((f 0).toNat) = IvM f i ((f 0).toNat + j) := by
  have hp := hv.p
  have h : Lin (f 1) ((f 0).toNat) ((f 0).toNat) ((f 0).toNat) (ub j) (mI f (f 1) ((f 0).toNat)) (mbF f (f 1) ((f 0).toNat) (ub j)) := by
    refine ⟨fun a x hx => ?_, fun a => ?_⟩
    · unfold mI mbF
      rw [if_pos hx, if_pos hx]
    · rw [smF_ub, if_pos hj]
      unfold mbF mI
      rw [if_neg (Nat.lt_irrefl _), if_pos rfl, if_neg (show ¬ (f 0).toNat + j < (f 0).toNat by omega)]
      unfold ub
      by_cases h1 : a = j
      · subst h1
        rw [if_pos rfl, if_pos rfl, Int.emod_emod_of_dvd _ (Int.dvd_refl _)]
      · rw [if_neg h1, if_neg (by omega)]
  have h2 := (elF_lin (lim := (f 0).toNat) h ((f 0).toNat) (Nat.le_refl _)).2 i
  rw [smF_ub, if_pos hj] at h2
  have hb := (elF_b (lim := (f 0).toNat) (show 1 ≤ f 1 by omega) (Rg.mi (f := f) (n := (f 0).toNat) (show 1 ≤ f 1 by omega)) ((f 0).toNat)).2.2.2 i ((f 0).toNat + j)
  rw [Int.emod_eq_of_lt hb.1 hb.2] at h2
  exact h2
theorem rk_le {f : Nat → Int} : rkF f ≤ (f 0).toNat := elF_lim _
theorem elF_ff {p : Int} {lim : Nat} {M : gMx} : ∀ k, k ≤ lim → ((elF p lim M k).1 = k ∧ (elF p lim M k).2.2.1 = lim) ∨ ((elF p lim M k).1 < k ∧ (elF p lim M k).2.2.1 < k ∧ (elF p lim M k).2.2.1 ≤ (elF p lim M k).1)
  | 0, _ => Or.inl ⟨rfl, rfl⟩
  | k + 1, hk => by
    have ih := elF_ff (p := p) (lim := lim) (M := M) k (by omega)
    rw [elF_k]
    cases h : pvF (elF p lim M k).2.2.2 k (lim - (elF p lim M k).1) (elF p lim M k).1 with
    | none =>
      rw [esF_n h]
      dsimp only
      omega
    | some i =>
      rw [esF_s h]
      dsimp only
      omega
section YI
variable {E : gEn} {Q : gQt} {X : gXt} {I : gI} {J : gJ} {B : gB} {c w : Nat} {f : Nat → Int} {o : Option (Nat → Int)} {a b d : Int}
theorem c_solution (h1 : -2147483648 ≤ a) (h2 : a < 2147483648) (hS : Sys o I J) : Cl E 77 [.inr (3, 0, 0), .inl (.int (gi a))] I J B (eM o fun f => if 0 ≤ a ∧ a < f 0 then (if rgB f = true then 0 else 3) else 2) (.inl (.int (gi (rM o fun f => sdF f (fun i => f (15 + i)) a.toNat ((f 0).toNat))))) :=
  Cl.of hS (fun h Q X k => e_X7_solution ⟨⟨by decide, by decide⟩, z_rs0 h k⟩) fun f hv hR Q X k1 k2 => e_X7_solution ⟨⟨by decide, by decide⟩, z_rs hv hR ⟨⟨by decide, by decide⟩, z_rr h1 h2 hv hR
    (fun g1 g2 => z_ws hv hR fun I2 fg gg => by
      have h0 := hv.1
      have hrk := rk_le (f := f)
      show (I2 6 0 0 0 ≤ gi _ → _) ∧ (¬ I2 6 0 0 0 ≤ gi _ → _)
      rw [(QF.rst fg.q JQ.rf hR (by decide)).1.1, gi_le (by omega) (by omega) (by omega) (by omega)]
      refine ⟨fun z => ?_, fun z => ⟨⟨by decide, by decide⟩, k2 2 ((if_pos ⟨g1, g2⟩).trans (if_neg (fun hr => by
        have : rkF f = (f 0).toNat := of_decide_eq_true hr
        omega))) I2 J fg.q JQ.rf⟩⟩
      have k1 := k1 ((if_pos ⟨g1, g2⟩).trans (if_pos (decide_eq_true (by omega)))) I2 J fg.q JQ.rf
      obtain ⟨x, rfl⟩ : ∃ n : Nat, a = n := ⟨a.toNat, by omega⟩
      have hh := z_at (E := E) (X := X) (Q := fun v I J B => gvi v fun r => Q (.inl (.int r)) I J B) (J := J) (B := B) (i := x) (j := (f 0).toNat) gg (by omega) (by omega) (by omega) (by omega) k1
      rw [show ((((f 0).toNat : Nat)) : Int) = f 0 by omega] at hh
      exact hh) (fun g => k2 1 (if_neg g) I J QF.rf JQ.rf)⟩⟩
theorem sd_at {I : gI} {f : Nat → Int} {bb : Nat → Int} {i : Nat} (hv : Vf f) (hi : i < (f 0).toNat) (gg : Gm I ((f 0).toNat) 0 ((f 0).toNat) (sdF f bb)) : vp_in (gi 8 * gi (i : Int) + gi 7) 56 ∧ I 38 0 0 (Int32.toNatClampNeg (gi 8 * gi (i : Int) + gi 7)) = gi (sdF f bb i ((f 0).toNat)) := by
  have h0 := hv.1
  obtain ⟨q1, q2, q3⟩ := gidx (i := i) (j := 7) (by omega) (by omega)
  have q1 : gi 8 * gi (i : Int) + gi 7 = gi ((8 * i + 7 : Nat) : Int) := q1
  have hg := gg i ((f 0).toNat) (by omega) hi (Nat.le_refl _)
  rw [show cmx ((f 0).toNat) ((f 0).toNat) = 7 from if_neg (Nat.lt_irrefl _)] at hg
  rw [q1, q2]
  exact ⟨q3, hg⟩
theorem z_rl (hv : Vf f) (hR : Rst f I J 0) (k1 : rgB f = true → ∀ I', Fg 1 I I' → Lrd f I' → Q (.inl .null) I' J B) (k2 : rgB f = false → ∀ I', Fg 1 I I' → X 2 I' J B) : gC E 119 [.inr (3, 0, 0)] I J B Q X := by
  refine e_X7_requireLifter (z_prep hv hR fun I' fg hL => ?_)
  cases hr : rgB f with
  | false => exact ⟨fun z => absurd rfl z, fun _ => ⟨⟨by decide, by decide⟩, k2 hr I' fg⟩⟩
  | true => exact ⟨fun _ => k1 hr I' fg hL, fun z => absurd z (by decide)⟩
theorem c_inverse (h1 : -2147483648 ≤ a) (h2 : a < 2147483648) (h3 : -2147483648 ≤ b) (h4 : b < 2147483648) (hS : Sys o I J) : Cl E 78 [.inr (3, 0, 0), .inl (.int (gi a)), .inl (.int (gi b))] I J B (eM o fun f => if (0 ≤ a ∧ a < f 0) ∧ (0 ≤ b ∧ b < f 0) then (if rgB f = true then 0 else 3) else 2) (.inl (.int (gi (rM o fun f => IvM f a.toNat ((f 0).toNat + b.toNat))))) :=
  Cl.of hS (fun h Q X k => e_X7_inverse ⟨⟨by decide, by decide⟩, z_rs0 h k⟩) fun f hv hR Q X k1 k2 => e_X7_inverse ⟨⟨by decide, by decide⟩, z_rs hv hR ⟨⟨by decide, by decide⟩, z_rr h1 h2 hv hR
    (fun g1 g2 => ⟨⟨by decide, by decide⟩, z_rr h3 h4 hv hR (fun g3 g4 => ⟨⟨by decide, by decide⟩, z_rl hv hR (fun hr I' fg hL => by
      have k1 := k1 ((if_pos ⟨⟨g1, g2⟩, ⟨g3, g4⟩⟩).trans (if_pos hr)) I' J fg.q JQ.rf
      obtain ⟨x, rfl⟩ : ∃ n : Nat, a = n := ⟨a.toNat, by omega⟩
      obtain ⟨y, rfl⟩ : ∃ n : Nat, b = n := ⟨b.toNat, by omega⟩
      exact z_ofInv hv hL (by omega) (by omega) k1) (fun hr I' fg => k2 2 ((if_pos ⟨⟨g1, g2⟩, ⟨g3, g4⟩⟩).trans (if_neg (by rw [hr]; decide))) I' J fg.q JQ.rf)⟩) (fun g => k2 1 (if_neg (fun z => g z.2)) I J QF.rf JQ.rf)⟩) (fun g => k2 1 (if_neg (fun z => g z.1)) I J QF.rf JQ.rf)⟩⟩
/-! the kernel -/
def knS (f : Nat → Int) : gEs := elF (f 1) ((f 0).toNat) (mtF f (f 1) ((f 0).toNat)) ((f 0).toNat)
def keF (f : Nat → Int) (i : Int) : Int := if i = ((knS f).2.2.1 : Nat) then 1 else if i < ((knS f).2.2.1 : Nat) then (-((knS f).2.2.2 i.toNat (knS f).2.2.1)) % f 1 else 0
theorem kn_ok (hv : Vf f) (hr : rgB f = false) : (knS f).2.2.1 < (f 0).toNat ∧ (knS f).2.2.1 ≤ rkF f ∧ rkF f < (f 0).toNat ∧ Rg (f 1) (knS f).2.2.2 := by
  have hp := hv.p
  have h1 : rkF f ≠ (f 0).toNat := of_decide_eq_false hr
  have h2 := elF_ff (p := f 1) (lim := (f 0).toNat) (M := mtF f (f 1) ((f 0).toNat)) ((f 0).toNat) (Nat.le_refl _)
  have h3 : (elF (f 1) ((f 0).toNat) (mtF f (f 1) ((f 0).toNat)) ((f 0).toNat)).1 = rkF f := rfl
  rw [h3] at h2
  have h4 := rk_le (f := f)
  refine ⟨?_, ?_, by omega, (elF_b (show 1 ≤ f 1 by omega) (Rg.mt (by omega)) _).2.2.2⟩
  · show (elF (f 1) ((f 0).toNat) (mtF f (f 1) ((f 0).toNat)) ((f 0).toNat)).2.2.1 < _
    omega
  · show (elF (f 1) ((f 0).toNat) (mtF f (f 1) ((f 0).toNat)) ((f 0).toNat)).2.2.1 ≤ _
    omega
theorem c_kernel (h1 : -2147483648 ≤ a) (h2 : a < 2147483648) (hS : Sys o I J) : Cl E 79 [.inr (3, 0, 0), .inl (.int (gi a))] I J B (eM o fun f => if 0 ≤ a ∧ a < f 0 then (if rgB f = true then 3 else 0) else 2) (.inl (.int (gi (rM o fun f => keF f a)))) :=
  Cl.of hS (fun h Q X k => e_X7_kernel ⟨⟨by decide, by decide⟩, z_rs0 h k⟩) fun f hv hR Q X k1 k2 => e_X7_kernel ⟨⟨by decide, by decide⟩, z_rs hv hR ⟨⟨by decide, by decide⟩, z_rr h1 h2 hv hR
    (fun g1 g2 => by
      have h0 := hv.1
      have hp := hv.p
      have en : f 0 = (((f 0).toNat : Nat) : Int) := by omega
      rw [hR.1.1, hR.1.2.1]
      have hz := z_take (E := E) (X := X) (Q := fun v1 I10 J11 B12 => gC E 11 [.inr (17, 0, 0), .inl (.int (gi (f 0)))] I10 J11 B12 (fun v13 I14 J15 B16 => gvi v13 fun r17 => ((¬ r17 = gi (f 0) → (gC E 16 [.inr (17, 0, 0), .inl (.int (gi a))] I14 J15 B16 (fun v18 I19 J20 B21 => gvi v18 fun r22 => (Q (.inl (.int r22)) I19 J20 B21)) X)) ∧ (r17 = gi (f 0) → ((2 + 1 ≤ 3 ∧ 12 + 6 ≤ 18) ∧ X 2 I14 J15 B16)))) X) (J := J) (B := B) (n := 0) (size := (f 0).toNat) (more := 0) (p := f 1) (by omega) (by omega) (by omega) (by omega) (hR.dia hv) fun I2 hf hg => by
        rw [en]
        refine z_el (by omega) (by omega) (Nat.le_refl _) (by omega) (by omega) (by omega) hg (Rg.mt (by omega)) fun I3 h3 => ?_
        have q3 : QF I I3 := hf.q.tr h3.1.q
        have hrk := rk_le (f := f)
        have r1 : (elF (f 1) ((f 0).toNat) (mtF f (f 1) ((f 0).toNat)) ((f 0).toNat)).1 = rkF f := rfl
        show (¬ gi _ = gi _ → _) ∧ (gi _ = gi _ → _)
        rw [r1, gi_eq (by omega) (by omega) (by omega) (by omega)]
        refine ⟨fun z => ?_, fun z => ⟨⟨by decide, by decide⟩, k2 2 ((if_pos ⟨g1, g2⟩).trans (if_pos (decide_eq_true (by omega)))) I3 J q3 JQ.rf⟩⟩
        have hrf : rgB f = false := decide_eq_false (by omega)
        obtain ⟨n1, n2, n3, n4⟩ := kn_ok hv hrf
        have k1 := k1 ((if_pos ⟨g1, g2⟩).trans (if_neg (by rw [hrf]; decide))) I3 J q3 JQ.rf
        have ef : I3 17 0 0 5 = gi (((knS f).2.2.1 : Nat) : Int) := h3.2.2.2
        refine e_X1_ofKernel ?_
        rw [ef, gi_eq h1 h2 (by omega) (by omega), gi_le (by omega) (by omega) h1 h2]
        unfold keF at k1
        refine ⟨fun y1 => ⟨fun y2 => ?_, fun y2 => ?_⟩, fun y1 => ?_⟩
        · rw [if_neg y1, if_neg (by omega)] at k1
          exact k1
        · rw [if_neg y1, if_pos (by omega)] at k1
          obtain ⟨x, rfl⟩ : ∃ n : Nat, a = n := ⟨a.toNat, by omega⟩
          have m4 := n4 x (knS f).2.2.1
          refine z_at (M := (knS f).2.2.2) h3.2.1 (by omega) (by omega) (by omega) (by omega) ?_
          show gC _ _ _ _ _ _ _ _
          rw [h3.2.1.2.2.1, gi_neg]
          exact z_red (by omega) (by omega) (by omega) (by omega) k1
        · rw [if_pos y1] at k1
          exact k1
      rw [← en] at hz
      exact hz) (fun g => k2 1 (if_neg g) I J QF.rf JQ.rf)⟩⟩
/-! whether there is a solution -/
def svF (f : Nat → Int) : Nat → Nat → Bool
  | 0, _ => true
  | d + 1, i => if sdF f (fun i => f (15 + i)) i ((f 0).toNat) = 0 then svF f d (i + 1) else false
theorem sd_rg (hv : Vf f) {bb : Nat → Int} : Rg (f 1) (sdF f bb) := (elF_b (by have := hv.p; omega) (Rg.mb (by have := hv.p; omega)) _).2.2.2
theorem c_sv_l (hv : Vf f) (h6 : I 6 0 0 0 = gi (f 0)) (gg : Gr I 0 ((f 0).toNat) ((f 0).toNat + 1) (f 1) (sdF f (fun i => f (15 + i)))) {x : Int} (h : Q (.inl (.int (gi x))) I J B) : ∀ d i : Nat, i + d = (f 0).toNat → bI (svF f d i) = x → gG E 80 11 [(0, .inr (3, 0, 0)), (2, .inl (.int (gi i)))] [] I J B c w Q X
  | 0, i, hi, hx => by
    have h0 := hv.1
    obtain rfl : i = (f 0).toNat := hi
    refine s_X7_isSolvable_11 ?_
    rw [h6, gi_le (by omega) (by omega) (by omega) (by omega)]
    rw [← hx] at h
    exact ⟨fun _ => ⟨Or.inr rfl, h⟩, fun z => by omega⟩
  | d + 1, i, hi, hx => by
    have h0 := hv.1
    have hp := hv.p
    have m := sd_rg (bb := fun i => f (15 + i)) hv i ((f 0).toNat)
    refine s_X7_isSolvable_11 ?_
    rw [h6, gi_le (by omega) (by omega) (by omega) (by omega)]
    refine ⟨fun z => by omega, fun _ => ?_⟩
    have hz := z_at (E := E) (X := X) (J := J) (B := B) (i := i) (j := (f 0).toNat) (Q := fun v10 I11 J12 B13 => gvi v10 fun r14 => ((r14 = gi 0 → (gG E 80 11 [(0, .inr (3, 0, 0)), (2, .inl (.int (gi (i : Int) + gi 1)))] [] I11 J12 B13 c w Q X)) ∧ (¬ r14 = gi 0 → (((gi 0) = gi 0 ∨ (gi 0) = gi 1) ∧ Q (.inl (.int (gi 0))) I11 J12 B13)))) gg (by omega) (by omega) (by omega) (by omega) (by
      show (gi _ = gi 0 → _) ∧ (¬ gi _ = gi 0 → _)
      rw [gi_eq (by omega) (by omega) (by decide) (by decide), gi_add]
      unfold svF at hx
      refine ⟨fun z => ?_, fun z => ⟨Or.inl rfl, ?_⟩⟩
      · rw [if_pos z] at hx
        exact c_sv_l hv h6 gg h d (i + 1) (by omega) hx
      · rw [if_neg z] at hx
        rw [← hx] at h
        exact h)
    rw [show (((f 0).toNat : Nat) : Int) = f 0 by omega] at hz
    exact hz
theorem c_isSolvable (hS : Sys o I J) : Cl E 80 [.inr (3, 0, 0)] I J B (eM o fun _ => 0) (.inl (.int (gi (rM o fun f => bI (svF f ((f 0).toNat - rkF f) (rkF f)))))) :=
  Cl.of hS (fun h Q X k => e_X7_isSolvable ⟨⟨by decide, by decide⟩, z_rs0 h k⟩) fun f hv hR Q X k1 k2 => e_X7_isSolvable ⟨⟨by decide, by decide⟩, z_rs hv hR (z_ws hv hR fun I2 fg gg => c_sv_l hv (QF.rst fg.q JQ.rf hR (by decide)).1.1 gg (k1 rfl I2 J fg.q JQ.rf) ((f 0).toNat - rkF f) (rkF f) (by have := rk_le (f := f); omega) rfl)⟩
end YI
