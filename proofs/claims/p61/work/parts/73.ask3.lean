section YF
variable {E : gEn} {Q : gQt} {X : gXt} {I : gI} {J : gJ} {B : gB} {c w : Nat} {f : Nat → Int} {o : Option (Nat → Int)} {a b d : Int}
theorem gprm : ∀ k, k < 11 → gprime k = gi (primesL.getD k 0) ∧ primesL.getD k 0 ∈ primesL := by decide
def rpF (f : Nat → Int) : Nat → Int32
  | 0 => gi 0
  | k + 1 => if detF f (primesL.getD k 0) ((f 0).toNat) = 0 then rpF f k else rpF f k ||| ((gi 1) <<< ((gi k) &&& 31))
theorem det_b {p : Int} {k : Nat} (hp : p ∈ primesL) : 0 ≤ detF f p k ∧ detF f p k < p := by
  have hb := pr_b hp
  exact (elF_b (lim := k) (M := mtF f p k) (show 1 ≤ p by omega) (Rg.mt (by omega)) k).2.1
theorem c_rp_l (hv : Vf f) (h : ∀ I', Fg 0 I I' → Q (.inl (.int (rpF f 11))) I' J B) : ∀ (d k : Nat) (I' : gI), k + d = 11 → Fg 0 I I' → Rst f I' J 0 → gG E 70 8 [(0, .inr (3, 0, 0)), (1, .inl (.int (rpF f k))), (2, .inl (.int (gi k)))] [] I' J B c w Q X
  | 0, k, I', hk, hF, hR => by
    obtain rfl : k = 11 := hk
    refine s_X7_regularPrimes_8 ⟨fun _ => h I' hF, fun z => absurd (Int32.le_refl _) z⟩
  | d + 1, k, I', hk, hF, hR => by
    have h0 := hv.1
    obtain ⟨g1, g2⟩ := gprm k (by omega)
    have hp := pr_b g2
    have hb := det_b (f := f) (k := (f 0).toNat) g2
    refine s_X7_regularPrimes_8 ?_
    rw [gi_le (by decide) (by decide) (by omega) (by omega), gi_c (by omega) (by omega), gtn, hR.1.1, g1, show f 0 = (((f 0).toNat : Nat) : Int) by omega]
    refine ⟨fun z => by omega, fun _ => ⟨gvp (by omega) (by omega) (by decide), z_lm hv hR (Nat.le_refl _) g2 fun I2 fg => ?_⟩⟩
    show (gi _ = gi 0 → _) ∧ (¬ gi _ = gi 0 → _)
    rw [gi_eq (by omega) (by omega) (by decide) (by decide), gi_add]
    refine ⟨fun z => ?_, fun z => ?_⟩
    · have := c_rp_l hv h d (k + 1) I2 (by omega) (hF.tr fg) (hR.fg fg)
      rw [show rpF f (k + 1) = rpF f k from if_pos z] at this
      exact this
    · have := c_rp_l hv h d (k + 1) I2 (by omega) (hF.tr fg) (hR.fg fg)
      rw [show rpF f (k + 1) = rpF f k ||| ((gi 1) <<< ((gi k) &&& 31)) from if_neg z] at this
      exact this
theorem c_regularPrimes (hS : Sys o I J) : Cl E 70 [.inr (3, 0, 0)] I J B (eM o fun _ => 0) (.inl (.int (gi (rM o fun f => (rpF f 11).toInt)))) :=
  Cl.of hS (fun h Q X k => e_X7_regularPrimes ⟨⟨by decide, by decide⟩, z_rs0 h k⟩) fun f hv hR Q X k1 k2 => e_X7_regularPrimes ⟨⟨by decide, by decide⟩, z_rs hv hR (c_rp_l (I := I) hv (fun I' fg => by
    have := k1 rfl I' J fg.q JQ.rf
    rw [gi_x] at this
    exact this) 11 0 I (by omega) Fg.rf hR)⟩
/-! a diagonal tried -/
theorem Vf.dia {v : Int} {k : Nat} (hv : Vf f) (hk : k < 13) (h1 : -50 ≤ v) (h2 : v ≤ 50) : Vf (upF f (2 + k) v) := by
  obtain ⟨v1, v2, v3, v4, v5, v6, v7, v8, v9⟩ := hv
  have e : ∀ j, j ≠ 2 + k → upF f (2 + k) v j = f j := fun j hj => upF_ne hj
  refine ⟨?_, ?_, fun j hj => ?_, fun j hj => ?_, fun j hj => ?_, fun j hj => ?_, ?_, fun j i hj hi => ?_, ?_⟩
  · rw [e _ (by omega)]; exact v1
  · rw [e _ (by omega)]; exact v2
  · by_cases h : j = k
    · subst h
      rw [show upF f (2 + j) v (2 + j) = v from if_pos rfl]
      exact ⟨h1, h2⟩
    · rw [e _ (by omega)]; exact v3 j hj
  · rw [e _ (by omega)]; exact v4 j hj
  · rw [e _ (by omega)]; exact v5 j hj
  · rw [e _ (by omega)]; exact v6 j hj
  · rw [e _ (by omega), e _ (by omega)]; exact v7
  · rw [e _ (by omega)] at hj
    rw [e _ (by omega)] at hi
    rw [e _ (by omega), e _ (by omega)]; exact v8 j i hj hi
  · rw [e _ (by omega)]; exact v9
theorem c_minorIf (h1 : -2147483648 ≤ a) (h2 : a < 2147483648) (h3 : -2147483648 ≤ b) (h4 : b < 2147483648) (h5 : -2147483648 ≤ d) (h6 : d < 2147483648) (hS : Sys o I J) : Cl E 71 [.inr (3, 0, 0), .inl (.int (gi a)), .inl (.int (gi b)), .inl (.int (gi d))] I J B (eM o fun f => if (-f 0 < a ∧ a < f 0) ∧ (0 ≤ d ∧ d ≤ f 0) then (if -50 ≤ b ∧ b ≤ 50 then 0 else 3) else 2) (.inl (.int (gi (rM o fun f => detF (upF f (2 + (a + 6).toNat) b) (f 1) d.toNat)))) :=
  Cl.of hS (fun h Q X k => e_X7_minorIf ⟨⟨by decide, by decide⟩, z_rs0 h k⟩) fun f hv hR Q X k1 k2 => e_X7_minorIf ⟨⟨by decide, by decide⟩, z_rs hv hR ⟨⟨by decide, by decide⟩, z_rd2 h1 h2 hv hR
    (fun g1 g2 => ⟨⟨by decide, by decide⟩, z_rz h5 h6 hv hR (fun g3 g4 => ⟨⟨by decide, by decide⟩, z_ri h3 h4 (by decide) (by decide) (fun g5 g6 => by
      have h0 := hv.1
      have hp := hv.p
      refine z_become (by decide) fun I2 J2 fs fj hb => ?_
      have hR2 := hb f hv hR
      refine z_putAlong (by omega) (by omega) ?_
      obtain ⟨s, rfl⟩ : ∃ s : Nat, d = s := ⟨d.toNat, by omega⟩
      rw [show (gUI I2 7 1 0 (a + 6).toNat (gi b)) 6 1 0 1 = I2 6 1 0 1 from if_neg (fun h => absurd h.1 (by decide)), hR2.1.2.1]
      have hd2 : Dia (upF f (2 + (a + 6).toNat) b) (gUI I2 7 1 0 (a + 6).toNat (gi b)) 1 := fun j hj => by
        have hv2 := (hv.dia (k := (a + 6).toNat) (by omega) g5 g6).2.2.1 j hj
        refine ⟨?_, hv2⟩
        rw [gUI_at]
        unfold upF
        by_cases hja : j = (a + 6).toNat
        · rw [if_pos ⟨rfl, rfl, rfl, hja⟩, if_pos (by omega)]
        · rw [if_neg (fun h => hja h.2.2.2), if_neg (by omega)]
          exact hR2.1.2.2.1 j hj
      refine z_take (size := s) (more := 0) (by omega) (by omega) (by omega) (by omega) hd2 fun I3 f3 gg3 => ?_
      show gC _ _ _ _ _ _ _ _
      refine z_el (by omega) (by omega) (Nat.le_refl _) (by omega) (by omega) (by omega) gg3 (Rg.mt (by omega)) fun I4 f4 => ?_
      show gC _ _ _ _ _ _ _ _
      refine e_X1_determinant ?_
      rw [f4.2.2.1]
      refine k1 ((if_pos ⟨⟨g1, g2⟩, ⟨g3, g4⟩⟩).trans (if_pos ⟨g5, g6⟩)) I4 J2 (fs.q.tr (QF.tr (fun x y z u hk => ?_) (f3.q.tr f4.1.q))) fj.q
      rw [gUI_at, if_neg (fun h => by unfold KQ at hk; omega)]) (fun g => k2 2 ((if_pos ⟨⟨g1, g2⟩, ⟨g3, g4⟩⟩).trans (if_neg g)) I J QF.rf JQ.rf)⟩) (fun g => k2 1 (if_neg (fun z => g z.2)) I J QF.rf JQ.rf)⟩) (fun g => k2 1 (if_neg (fun z => g z.1)) I J QF.rf JQ.rf)⟩⟩
/-! products -/
theorem c_product (h1 : -2147483648 ≤ a) (h2 : a < 2147483648) (hS : Sys o I J) : Cl E 92 [.inr (3, 0, 0), .inl (.int (gi a))] I J B (eM o fun f => if 0 ≤ a ∧ a < f 0 then 0 else 2) (.inl (.int (gi (rM o fun f => pdF f a ((f 0).toNat))))) :=
  Cl.of hS (fun h Q X k => e_X7_product ⟨⟨by decide, by decide⟩, z_rs0 h k⟩) fun f hv hR Q X k1 k2 => e_X7_product ⟨⟨by decide, by decide⟩, z_rs hv hR ⟨⟨by decide, by decide⟩, z_rr h1 h2 hv hR
    (fun g1 g2 => by
      obtain ⟨s, rfl⟩ : ∃ s : Nat, a = s := ⟨a.toNat, by omega⟩
      exact z_tp hv hR (by omega) (k1 (if_pos ⟨g1, g2⟩) I J QF.rf JQ.rf)) (fun g => k2 1 (if_neg g) I J QF.rf JQ.rf)⟩⟩
theorem c_circulant (h1 : -2147483648 ≤ a) (h2 : a < 2147483648) (h3 : -2147483648 ≤ b) (h4 : b < 2147483648) (hS : Sys o I J) : Cl E 93 [.inr (3, 0, 0), .inl (.int (gi a)), .inl (.int (gi b))] I J B (eM o fun f => if (0 ≤ a ∧ a < 2 * f 0) ∧ (0 ≤ b ∧ b < 2 * f 0) then 0 else 2) (.inl (.int (gi (rM o fun f => arF f (a - b))))) :=
  Cl.of hS (fun h Q X k => e_X7_circulant ⟨⟨by decide, by decide⟩, z_rs0 h k⟩) fun f hv hR Q X k1 k2 => e_X7_circulant ⟨⟨by decide, by decide⟩, z_rs hv hR ⟨⟨by decide, by decide⟩, z_rw2 h1 h2 hv hR
    (fun g1 g2 => ⟨⟨by decide, by decide⟩, z_rw2 h3 h4 hv hR (fun g3 g4 => by
      have h0 := hv.1
      rw [gi_sub]
      exact z_ar (by omega) (by omega) hv hR (k1 (if_pos ⟨⟨g1, g2⟩, ⟨g3, g4⟩⟩) I J QF.rf JQ.rf)) (fun g => k2 1 (if_neg (fun z => g z.2)) I J QF.rf JQ.rf)⟩) (fun g => k2 1 (if_neg (fun z => g z.1)) I J QF.rf JQ.rf)⟩⟩
def wrF (f : Nat → Int) (i : Int) : Nat → Int
  | 0 => 0
  | j + 1 => wrF f i j + arF f (i - (j : Int)) * f (22 + j)
theorem c_wr_l (hv : Vf f) (hR : Rst f I J 0) (h1 : 0 ≤ a) (h2 : a < 2 * f 0) (h : Q (.inl (.int (gi (wrF f a ((f 0).toNat))))) I J B) : ∀ d j : Nat, j + d = (f 0).toNat → gG E 94 13 [(0, .inr (3, 0, 0)), (1, .inl (.int (gi a))), (2, .inl (.int (gi (wrF f a j)))), (3, .inl (.int (gi j)))] [] I J B c w Q X
  | 0, j, hj => by
    have h0 := hv.1
    obtain rfl : j = (f 0).toNat := hj
    refine s_X7_wrapped_13 ?_
    rw [hR.1.1, gi_le (by omega) (by omega) (by omega) (by omega)]
    exact ⟨fun _ => h, fun z => by omega⟩
  | d + 1, j, hj => by
    have h0 := hv.1
    refine s_X7_wrapped_13 ?_
    rw [hR.1.1, gi_le (by omega) (by omega) (by omega) (by omega), gi_sub]
    refine ⟨fun z => by omega, fun _ => z_ar (by omega) (by omega) hv hR ⟨gvp (by omega) (by omega) (by decide), ?_⟩⟩
    rw [gi_c (by omega) (by omega), gtn, hR.1.2.2.2.2.1 j (by omega), gi_mul, gi_add, gi_add]
    exact c_wr_l hv hR h1 h2 h d (j + 1) (by omega)
theorem c_wrapped (h1 : -2147483648 ≤ a) (h2 : a < 2147483648) (hS : Sys o I J) : Cl E 94 [.inr (3, 0, 0), .inl (.int (gi a))] I J B (eM o fun f => if 0 ≤ a ∧ a < 2 * f 0 then 0 else 2) (.inl (.int (gi (rM o fun f => wrF f a ((f 0).toNat))))) :=
  Cl.of hS (fun h Q X k => e_X7_wrapped ⟨⟨by decide, by decide⟩, z_rs0 h k⟩) fun f hv hR Q X k1 k2 => e_X7_wrapped ⟨⟨by decide, by decide⟩, z_rs hv hR ⟨⟨by decide, by decide⟩, z_rw2 h1 h2 hv hR
    (fun g1 g2 => c_wr_l hv hR g1 g2 (k1 (if_pos ⟨g1, g2⟩) I J QF.rf JQ.rf) (f 0).toNat 0 (by omega)) (fun g => k2 1 (if_neg g) I J QF.rf JQ.rf)⟩⟩
def psF (f : Nat → Int) : Nat → Nat → Bool
  | 0, _ => true
  | d + 1, i => if gi (pdF f i ((f 0).toNat)) = gi (f (15 + i)) then psF f d (i + 1) else false
theorem c_ps_l (hv : Vf f) (hR : Rst f I J 0) {x : Int} (h : Q (.inl (.int (gi x))) I J B) : ∀ d i : Nat, i + d = (f 0).toNat → bI (psF f d i) = x → gG E 95 6 [(0, .inr (3, 0, 0)), (1, .inl (.int (gi i)))] [] I J B c w Q X
  | 0, i, hi, hx => by
    have h0 := hv.1
    obtain rfl : i = (f 0).toNat := hi
    refine s_X7_probeSolves_6 ?_
    rw [hR.1.1, gi_le (by omega) (by omega) (by omega) (by omega)]
    rw [← hx] at h
    exact ⟨fun _ => ⟨Or.inr rfl, h⟩, fun z => by omega⟩
  | d + 1, i, hi, hx => by
    have h0 := hv.1
    refine s_X7_probeSolves_6 ?_
    rw [hR.1.1, gi_le (by omega) (by omega) (by omega) (by omega)]
    refine ⟨fun z => by omega, fun _ => z_tp hv hR (by omega) ⟨gvp (by omega) (by omega) (by decide), ?_⟩⟩
    rw [gi_c (by omega) (by omega), gtn, hR.1.2.2.2.1 i (by omega), gi_add]
    unfold psF at hx
    refine ⟨fun z => ?_, fun z => ⟨Or.inl rfl, ?_⟩⟩
    · rw [if_pos z] at hx
      exact c_ps_l hv hR h d (i + 1) (by omega) hx
    · rw [if_neg z] at hx
      rw [← hx] at h
      exact h
theorem c_probeSolves (hS : Sys o I J) : Cl E 95 [.inr (3, 0, 0)] I J B (eM o fun _ => 0) (.inl (.int (gi (rM o fun f => bI (psF f ((f 0).toNat) 0))))) :=
  Cl.of hS (fun h Q X k => e_X7_probeSolves ⟨⟨by decide, by decide⟩, z_rs0 h k⟩) fun f hv hR Q X k1 k2 => e_X7_probeSolves ⟨⟨by decide, by decide⟩, z_rs hv hR (c_ps_l hv hR (k1 rfl I J QF.rf JQ.rf) (f 0).toNat 0 (by omega) rfl)⟩
end YF
