section YF
variable {E : gEn} {Q : gQt} {X : gXt} {I : gI} {J : gJ} {B : gB} {c w : Nat} {f : Nat → Int} {o : Option (Nat → Int)} {a b d : Int}
theorem gprm : ∀ k, k < 11 → gprime k = gi (primesL.getD k 0) ∧ primesL.getD k 0 ∈ primesL := by decide
def rpF (f : Nat → Int) : Nat → Int32
  | 0 => gi 0
  | k + 1 => if detF f (primesL.getD k 0) ((f 0).toNat) = 0 then rpF f k else rpF f k ||| ((gi 1) <<< ((gi k) &&& 31))
theorem det_b {p : Int} {k : Nat} (hp : p ∈ primesL) : 0 ≤ detF f p k ∧ detF f p k < p := by
  have hb := pr_b hp
  exact (elF_b (lim := k) (M := mtF f p k) (show 1 ≤ p by omega) (Rg.mt (by omega)) k).2.1
theorem c_rp_l (hv : Vf f) (h : ∀ I', Fg 0 I I' → Q (.inl (.int (rpF f 11))) I' J B) : ∀ (d k : Nat) (I' : gI), k + d = 11 → Fg 0 I I' → Rst f I' J 0 → gG E 70 8 [(0, .inr (3, 0, 0)), (1, .inl (.int (rpF f k))), (2, .inl (.int (gi k)))] [] I' J B c w Q X
  | 0, k, I', hk, hF, hR => by
    obtain rfl : k = 11 := hk
    refine s_X7_regularPrimes_8 ⟨fun _ => h I' hF, fun z => absurd (Int32.le_refl _) z⟩
  | d + 1, k, I', hk, hF, hR => by
    have h0 := hv.1
    obtain ⟨g1, g2⟩ := gprm k (by omega)
    have hp := pr_b g2
    have hb := det_b (f := f) (k := (f 0).toNat) g2
    refine s_X7_regularPrimes_8 ?_
    rw [gi_le (by decide) (by decide) (by omega) (by omega), gi_c (by omega) (by omega), gtn, hR.1.1, g1, show f 0 = (((f 0).toNat : Nat) : Int) by omega]
    refine ⟨fun z => by omega, fun _ => ⟨gvp (by omega) (by omega) (by decide), z_lm hv hR (Nat.le_refl _) g2 fun I2 fg => ?_⟩⟩
    show (gi _ = gi 0 → _) ∧ (¬ gi _ = gi 0 → _)
    rw [gi_eq (by omega) (by omega) (by decide) (by decide), gi_add]
    refine ⟨fun z => ?_, fun z => ?_⟩
    · have := c_rp_l hv h d (k + 1) I2 (by omega) (hF.tr fg) (hR.fg fg)
      rw [show rpF f (k + 1) = rpF f k from if_pos z] at this
      exact this
    · have := c_rp_l hv h d (k + 1) I2 (by omega) (hF.tr fg) (hR.fg fg)
      rw [show rpF f (k + 1) = rpF f k ||| ((gi 1) <<< ((gi k) &&& 31)) from if_neg z] at this
      exact this
theorem c_regularPrimes (hS : Sys o I J) : Cl E 70 [.inr (3, 0, 0)] I J B (eM o fun _ => 0) (.inl (.int (gi (rM o fun f => (rpF f 11).toInt)))) :=
  Cl.of hS (fun h Q X k => e_X7_regularPrimes ⟨⟨by decide, by decide⟩, z_rs0 h k⟩) fun f hv hR Q X k1 k2 => e_X7_regularPrimes ⟨⟨by decide, by decide⟩, z_rs hv hR (c_rp_l (I := I) hv (fun I' fg => by
    have := k1 rfl I' J fg.q JQ.rf
    rw [gi_x] at this
    exact this) 11 0 I (by omega) Fg.rf hR)⟩
theorem m_rp_l (hv : Vf f) (h : ∀ I', Fpg I I' → Q (.inl (.int (rpF f 11))) I' J B) : ∀ (d k : Nat) (I' : gI), k + d = 11 → Fpg I I' → Mrow f I' → gG E 192 13 [(0, .inr (31, 0, 0)), (1, .inl (.int (rpF f k))), (2, .inl (.int (gi k)))] [] I' J B c w Q X
  | 0, k, I', hk, hF, hM => by
    obtain rfl : k = 11 := hk
    refine s_X8_regularPrimes_13 ⟨fun _ => h I' hF, fun z => absurd (Int32.le_refl _) z⟩
  | d + 1, k, I', hk, hF, hM => by
    have h0 := hv.1
    obtain ⟨g1, g2⟩ := gprm k (by omega)
    have hp := pr_b g2
    have hb := det_b (f := f) (k := (f 0).toNat) g2
    refine s_X8_regularPrimes_13 ?_
    rw [gi_le (by decide) (by decide) (by omega) (by omega)]
    refine ⟨fun z => by omega, fun _ => ⟨gvp (by decide) (by decide) (by decide), z_pa (by omega) ?_⟩⟩
    show gC _ _ _ _ _ _ _ _
    rw [hM 0 (by decide), g1, show f 0 = (((f 0).toNat : Nat) : Int) by omega]
    refine z_mo hv hM (Nat.le_refl _) g2 fun I2 fg => ?_
    show (gi _ = gi 0 → _) ∧ (¬ gi _ = gi 0 → _)
    rw [gi_eq (by omega) (by omega) (by decide) (by decide), gi_add, show rpF f k ||| gi 0 = rpF f k from Int32.or_zero]
    refine ⟨fun z => ?_, fun z => ?_⟩
    · have := m_rp_l hv h d (k + 1) I2 (by omega) (hF.tr fg) (hM.fpg fg)
      rw [show rpF f (k + 1) = rpF f k from if_pos z] at this
      exact this
    · have := m_rp_l hv h d (k + 1) I2 (by omega) (hF.tr fg) (hM.fpg fg)
      rw [show rpF f (k + 1) = rpF f k ||| ((gi 1) <<< ((gi k) &&& 31)) from if_neg z] at this
      exact this
theorem m_regularPrimes (hS : Sys o I J) : Ml E 192 [.inr (31, 0, 0)] I J B (eM o fun _ => 0) (.inl (.int (gi (rM o fun f => (rpF f 11).toInt)))) :=
  Ml.of hS (fun h Q X k => e_X8_regularPrimes (z_ns0 h fun I' t g => ⟨fun g2 => absurd g2 (by decide), fun _ => k I' t g _⟩)) fun f hv hM hs Q X k => e_X8_regularPrimes (z_ns1 hs fun I' t g => ⟨fun _ => m_rp_l (I := I') hv (fun I2 fg => Kok k (t.q.tr fg.q) JQ.rf ((fg 31 0 0 0 (by decide) (by decide)).trans g) rfl (gi_x _)) 11 0 I' (by omega) Fpg.rf (t.mrow hM), fun z => absurd rfl z⟩)
/-! a diagonal tried -/
theorem Vf.dia {v : Int} {k : Nat} (hv : Vf f) (hk : k < 13) (h1 : -50 ≤ v) (h2 : v ≤ 50) : Vf (upF f (2 + k) v) := by
  obtain ⟨v1, v2, v3, v4, v5, v6, v7, v8, v9⟩ := hv
  have e : ∀ j, j ≠ 2 + k → upF f (2 + k) v j = f j := fun j hj => upF_ne hj
  refine ⟨?_, ?_, fun j hj => ?_, fun j hj => ?_, fun j hj => ?_, fun j hj => ?_, ?_, fun j i hj hi => ?_, ?_⟩
  · rw [e _ (by omega)]; exact v1
  · rw [e _ (by omega)]; exact v2
  · by_cases h : j = k
    · subst h
      rw [show upF f (2 + j) v (2 + j) = v from if_pos rfl]
      exact ⟨h1, h2⟩
    · rw [e _ (by omega)]; exact v3 j hj
  · rw [e _ (by omega)]; exact v4 j hj
  · rw [e _ (by omega)]; exact v5 j hj
  · rw [e _ (by omega)]; exact v6 j hj
  · rw [e _ (by omega), e _ (by omega)]; exact v7
  · rw [e _ (by omega)] at hj
    rw [e _ (by omega)] at hi
    rw [e _ (by omega), e _ (by omega)]; exact v8 j i hj hi
  · rw [e _ (by omega)]; exact v9
theorem c_minorIf (h1 : -2147483648 ≤ a) (h2 : a < 2147483648) (h3 : -2147483648 ≤ b) (h4 : b < 2147483648) (h5 : -2147483648 ≤ d) (h6 : d < 2147483648) (hS : Sys o I J) : Cl E 71 [.inr (3, 0, 0), .inl (.int (gi a)), .inl (.int (gi b)), .inl (.int (gi d))] I J B (eM o fun f => if (-f 0 < a ∧ a < f 0) ∧ (0 ≤ d ∧ d ≤ f 0) then (if -50 ≤ b ∧ b ≤ 50 then 0 else 3) else 2) (.inl (.int (gi (rM o fun f => detF (upF f (2 + (a + 6).toNat) b) (f 1) d.toNat)))) :=
  Cl.of hS (fun h Q X k => e_X7_minorIf ⟨⟨by decide, by decide⟩, z_rs0 h k⟩) fun f hv hR Q X k1 k2 => e_X7_minorIf ⟨⟨by decide, by decide⟩, z_rs hv hR ⟨⟨by decide, by decide⟩, z_rd2 h1 h2 hv hR
    (fun g1 g2 => ⟨⟨by decide, by decide⟩, z_rz h5 h6 hv hR (fun g3 g4 => ⟨⟨by decide, by decide⟩, z_ri h3 h4 (by decide) (by decide) (fun g5 g6 => by
      have h0 := hv.1
      have hp := hv.p
      refine z_become (by decide) fun I2 J2 fs fj hb => ?_
      have hR2 := hb f hv hR
      refine z_putAlong (by omega) (by omega) ?_
      obtain ⟨s, rfl⟩ : ∃ s : Nat, d = s := ⟨d.toNat, by omega⟩
      rw [show (gUI I2 7 1 0 (a + 6).toNat (gi b)) 6 1 0 1 = I2 6 1 0 1 from if_neg (fun h => absurd h.1 (by decide)), hR2.1.2.1]
      have hd2 : Dia (upF f (2 + (a + 6).toNat) b) (gUI I2 7 1 0 (a + 6).toNat (gi b)) 1 := fun j hj => by
        have hv2 := (hv.dia (k := (a + 6).toNat) (by omega) g5 g6).2.2.1 j hj
        refine ⟨?_, hv2⟩
        rw [gUI_at]
        unfold upF
        by_cases hja : j = (a + 6).toNat
        · rw [if_pos ⟨rfl, rfl, rfl, hja⟩, if_pos (by omega)]
        · rw [if_neg (fun h => hja h.2.2.2), if_neg (by omega)]
          exact hR2.1.2.2.1 j hj
      refine z_take (size := s) (more := 0) (by omega) (by omega) (by omega) (by omega) hd2 fun I3 f3 gg3 => ?_
      show gC _ _ _ _ _ _ _ _
      refine z_el (by omega) (by omega) (Nat.le_refl _) (by omega) (by omega) (by omega) gg3 (Rg.mt (by omega)) fun I4 f4 => ?_
      show gC _ _ _ _ _ _ _ _
      refine e_X1_determinant ?_
      rw [f4.2.2.1]
      refine k1 ((if_pos ⟨⟨g1, g2⟩, ⟨g3, g4⟩⟩).trans (if_pos ⟨g5, g6⟩)) I4 J2 (fs.q.tr (QF.tr (fun x y z u hk => ?_) (f3.q.tr f4.1.q))) fj.q
      rw [gUI_at, if_neg (fun h => by unfold KQ at hk; omega)]) (fun g => k2 2 ((if_pos ⟨⟨g1, g2⟩, ⟨g3, g4⟩⟩).trans (if_neg g)) I J QF.rf JQ.rf)⟩) (fun g => k2 1 (if_neg (fun z => g z.2)) I J QF.rf JQ.rf)⟩) (fun g => k2 1 (if_neg (fun z => g z.1)) I J QF.rf JQ.rf)⟩⟩
theorem m_minorIf (h1 : -2147483648 ≤ a) (h2 : a < 2147483648) (h3 : -2147483648 ≤ b) (h4 : b < 2147483648) (h5 : -2147483648 ≤ d) (h6 : d < 2147483648) (hS : Sys o I J) : Ml E 193 [.inr (31, 0, 0), .inl (.int (gi a)), .inl (.int (gi b)), .inl (.int (gi d))] I J B (eM o fun f => if (-f 0 < a ∧ a < f 0) ∧ (0 ≤ d ∧ d ≤ f 0) then (if -50 ≤ b ∧ b ≤ 50 then 0 else 3) else 2) (.inl (.int (gi (rM o fun f => detF (upF f (2 + (a + 6).toNat) b) (f 1) d.toNat)))) :=
  Ml.of hS (fun h Q X k => e_X8_minorIf (z_ns0 h fun I' t g => ⟨fun _ => k I' t g _, fun g2 => absurd g2 (by decide)⟩)) fun f hv hM hs Q X k => e_X8_minorIf (z_ns1 hs fun I' t g => ⟨fun z => absurd rfl z, fun _ => z_isDia h1 h2 hv (t.mrow hM)
    (fun g1 g2 => ⟨fun z => absurd z (by decide), fun _ => ⟨gvp (by decide) (by decide) (by decide), by
      have h0 := hv.1
      have hM1 := t.mrow hM
      rw [hM1 0 (by decide)]
      refine z_inr g (by decide) h5 h6 (by decide) (by decide) (by omega) (by omega) (fun g3 g4 => ⟨fun z => absurd rfl z, fun _ => ?_⟩) (fun g3 => ⟨fun _ => Kno k t.up.q JQ.rf 1 th_up (if_neg (fun z => g3 z.2)), fun z => absurd z (by decide)⟩)
      refine z_inr g (by decide) h3 h4 (by decide) (by decide) (by decide) (by decide) (fun g5 g6 => ⟨fun _ => ?_, fun z => absurd rfl z⟩) (fun g5 => ⟨fun z => absurd z (by decide), fun _ => Kno k t.up.q JQ.rf 2 th_up ((if_pos ⟨⟨g1, g2⟩, ⟨g3, g4⟩⟩).trans (if_neg g5))⟩)
      obtain ⟨s, rfl⟩ : ∃ s : Nat, d = s := ⟨d.toNat, by omega⟩
      have e8 : Int32.toNatClampNeg (gi 8 + gi a) = 2 + (a + 6).toNat := by
        rw [gi_add, gi_c (by omega) (by omega)]
        omega
      have p8 : vp_in (gi 8 + gi a) 408 := by
        rw [gi_add]
        exact gvp (by omega) (by omega) (by decide)
      rw [e8]
      have hM2 := hM1.up (k := 2 + (a + 6).toNat) (v := b)
      refine ⟨p8, p8, z_mn (hv.dia (by omega) g5 g6) hM2 (by rw [upF_ne (by omega)]; omega) fun I2 fp => ⟨p8, ?_⟩⟩
      have hth : I2 31 0 0 0 = gi 0 := (fp 31 0 0 0 (by decide) (by decide)).trans ((if_neg (fun h => absurd h.1 (by decide))).trans g)
      refine Kok k (t.q.tr ?_) JQ.rf ((if_neg (fun h => absurd h.1 (by decide))).trans hth) ((if_pos ⟨⟨g1, g2⟩, ⟨g3, g4⟩⟩).trans (if_pos ⟨g5, g6⟩)) (by rw [upF_ne (show 1 ≠ 2 + (a + 6).toNat by omega)]; rfl)
      intro x y z u hk
      rw [gUI_at]
      by_cases h9 : x = 32 ∧ y = 0 ∧ z = 0 ∧ u = 2 + (a + 6).toNat
      · rw [if_pos h9, h9.1, h9.2.1, h9.2.2.1, h9.2.2.2]
      · rw [if_neg h9, fp x y z u (by unfold KQ at hk; omega) (by unfold KQ at hk; omega), gUI_at, if_neg h9]⟩⟩)
    (fun g1 => ⟨fun _ => z_rf1 g (by decide) ⟨fun _ => Kno k t.up.q JQ.rf 1 th_up (if_neg (fun z => g1 z.1)), fun z => absurd z (by decide)⟩, fun z => absurd rfl z⟩)⟩)
/-! products -/
theorem c_product (h1 : -2147483648 ≤ a) (h2 : a < 2147483648) (hS : Sys o I J) : Cl E 92 [.inr (3, 0, 0), .inl (.int (gi a))] I J B (eM o fun f => if 0 ≤ a ∧ a < f 0 then 0 else 2) (.inl (.int (gi (rM o fun f => pdF f a ((f 0).toNat))))) :=
  Cl.of hS (fun h Q X k => e_X7_product ⟨⟨by decide, by decide⟩, z_rs0 h k⟩) fun f hv hR Q X k1 k2 => e_X7_product ⟨⟨by decide, by decide⟩, z_rs hv hR ⟨⟨by decide, by decide⟩, z_rr h1 h2 hv hR
    (fun g1 g2 => by
      obtain ⟨s, rfl⟩ : ∃ s : Nat, a = s := ⟨a.toNat, by omega⟩
      exact z_tp hv hR (by omega) (k1 (if_pos ⟨g1, g2⟩) I J QF.rf JQ.rf)) (fun g => k2 1 (if_neg g) I J QF.rf JQ.rf)⟩⟩
theorem m_product (h1 : -2147483648 ≤ a) (h2 : a < 2147483648) (hS : Sys o I J) : Ml E 232 [.inr (31, 0, 0), .inl (.int (gi a))] I J B (eM o fun f => if 0 ≤ a ∧ a < f 0 then 0 else 2) (.inl (.int (gi (rM o fun f => pdF f a ((f 0).toNat))))) :=
  Ml.of hS (fun h Q X k => e_X8_product (z_nr0 h fun I' t g => ⟨fun g2 => absurd g2 (by decide), fun _ => k I' t g _⟩)) fun f hv hM hs Q X k => e_X8_product (z_nr1 hs h1 h2 hv hM
    (fun g1 g2 I' t g => ⟨fun _ => by
      obtain ⟨s, rfl⟩ : ∃ s : Nat, a = s := ⟨a.toNat, by omega⟩
      exact z_po hv (t.mrow hM) (by omega) (Kok k t.q JQ.rf g (if_pos ⟨g1, g2⟩) rfl), fun z => absurd rfl z⟩)
    (fun g1 I' t g => ⟨fun z => absurd z (by decide), fun _ => Kno k t.q JQ.rf 1 g (if_neg g1)⟩))
theorem c_circulant (h1 : -2147483648 ≤ a) (h2 : a < 2147483648) (h3 : -2147483648 ≤ b) (h4 : b < 2147483648) (hS : Sys o I J) : Cl E 93 [.inr (3, 0, 0), .inl (.int (gi a)), .inl (.int (gi b))] I J B (eM o fun f => if (0 ≤ a ∧ a < 2 * f 0) ∧ (0 ≤ b ∧ b < 2 * f 0) then 0 else 2) (.inl (.int (gi (rM o fun f => arF f (a - b))))) :=
  Cl.of hS (fun h Q X k => e_X7_circulant ⟨⟨by decide, by decide⟩, z_rs0 h k⟩) fun f hv hR Q X k1 k2 => e_X7_circulant ⟨⟨by decide, by decide⟩, z_rs hv hR ⟨⟨by decide, by decide⟩, z_rw2 h1 h2 hv hR
    (fun g1 g2 => ⟨⟨by decide, by decide⟩, z_rw2 h3 h4 hv hR (fun g3 g4 => by
      have h0 := hv.1
      rw [gi_sub]
      exact z_ar (by omega) (by omega) hv hR (k1 (if_pos ⟨⟨g1, g2⟩, ⟨g3, g4⟩⟩) I J QF.rf JQ.rf)) (fun g => k2 1 (if_neg (fun z => g z.2)) I J QF.rf JQ.rf)⟩) (fun g => k2 1 (if_neg (fun z => g z.1)) I J QF.rf JQ.rf)⟩⟩
theorem m_circulant (h1 : -2147483648 ≤ a) (h2 : a < 2147483648) (h3 : -2147483648 ≤ b) (h4 : b < 2147483648) (hS : Sys o I J) : Ml E 235 [.inr (31, 0, 0), .inl (.int (gi a)), .inl (.int (gi b))] I J B (eM o fun f => if (0 ≤ a ∧ a < 2 * f 0) ∧ (0 ≤ b ∧ b < 2 * f 0) then 0 else 2) (.inl (.int (gi (rM o fun f => arF f (a - b))))) :=
  Ml.of hS (fun h Q X k => e_X8_circulant (z_nw0 h fun I' t g => ⟨fun _ => k I' t g _, fun g2 => absurd g2 (by decide)⟩)) fun f hv hM hs Q X k => e_X8_circulant (z_nw1 hs h1 h2 hv hM
    (fun g1 g2 I' t g => ⟨fun z => absurd rfl z, fun _ => ⟨gvp (by decide) (by decide) (by decide), by
      have h0 := hv.1
      rw [(t.mrow hM) 0 (by decide), gi_mul, gi_sub]
      exact z_inr g (by decide) h3 h4 (by decide) (by decide) (by omega) (by omega) (fun g3 g4 => ⟨fun _ => z_ci ⟨g1, g2⟩ ⟨g3, by omega⟩ hv (t.mrow hM) (Kok k t.q JQ.rf g (if_pos ⟨⟨g1, g2⟩, ⟨g3, by omega⟩⟩) rfl), fun z => absurd rfl z⟩) (fun g3 => ⟨fun z => absurd z (by decide), fun _ => Kno k t.up.q JQ.rf 1 th_up (if_neg (fun z => g3 ⟨z.2.1, by omega⟩))⟩)⟩⟩)
    (fun g1 I' t g => ⟨fun _ => Kno k t.q JQ.rf 1 g (if_neg (fun z => g1 z.1)), fun z => absurd z (by decide)⟩))
def wrF (f : Nat → Int) (i : Int) : Nat → Int
  | 0 => 0
  | j + 1 => wrF f i j + arF f (i - (j : Int)) * f (22 + j)
theorem c_wr_l (hv : Vf f) (hR : Rst f I J 0) (h1 : 0 ≤ a) (h2 : a < 2 * f 0) (h : Q (.inl (.int (gi (wrF f a ((f 0).toNat))))) I J B) : ∀ d j : Nat, j + d = (f 0).toNat → gG E 94 13 [(0, .inr (3, 0, 0)), (1, .inl (.int (gi a))), (2, .inl (.int (gi (wrF f a j)))), (3, .inl (.int (gi j)))] [] I J B c w Q X
  | 0, j, hj => by
    have h0 := hv.1
    obtain rfl : j = (f 0).toNat := hj
    refine s_X7_wrapped_13 ?_
    rw [hR.1.1, gi_le (by omega) (by omega) (by omega) (by omega)]
    exact ⟨fun _ => h, fun z => by omega⟩
  | d + 1, j, hj => by
    have h0 := hv.1
    refine s_X7_wrapped_13 ?_
    rw [hR.1.1, gi_le (by omega) (by omega) (by omega) (by omega), gi_sub]
    refine ⟨fun z => by omega, fun _ => z_ar (by omega) (by omega) hv hR ⟨gvp (by omega) (by omega) (by decide), ?_⟩⟩
    rw [gi_c (by omega) (by omega), gtn, hR.1.2.2.2.2.1 j (by omega), gi_mul, gi_add, gi_add]
    exact c_wr_l hv hR h1 h2 h d (j + 1) (by omega)
theorem c_wrapped (h1 : -2147483648 ≤ a) (h2 : a < 2147483648) (hS : Sys o I J) : Cl E 94 [.inr (3, 0, 0), .inl (.int (gi a))] I J B (eM o fun f => if 0 ≤ a ∧ a < 2 * f 0 then 0 else 2) (.inl (.int (gi (rM o fun f => wrF f a ((f 0).toNat))))) :=
  Cl.of hS (fun h Q X k => e_X7_wrapped ⟨⟨by decide, by decide⟩, z_rs0 h k⟩) fun f hv hR Q X k1 k2 => e_X7_wrapped ⟨⟨by decide, by decide⟩, z_rs hv hR ⟨⟨by decide, by decide⟩, z_rw2 h1 h2 hv hR
    (fun g1 g2 => c_wr_l hv hR g1 g2 (k1 (if_pos ⟨g1, g2⟩) I J QF.rf JQ.rf) (f 0).toNat 0 (by omega)) (fun g => k2 1 (if_neg g) I J QF.rf JQ.rf)⟩⟩
theorem m_wr_l (hv : Vf f) (hM : Mrow f I) (h1 : 0 ≤ a) (h2 : a < 2 * f 0) (h : Q (.inl (.int (gi (wrF f a ((f 0).toNat))))) I J B) : ∀ d j : Nat, j + d = (f 0).toNat → gG E 236 14 [(0, .inr (31, 0, 0)), (1, .inl (.int (gi a))), (2, .inl (.int (gi (wrF f a j)))), (3, .inl (.int (gi j)))] [] I J B c w Q X
  | 0, j, hj => by
    have h0 := hv.1
    obtain rfl : j = (f 0).toNat := hj
    refine s_X8_wrapped_14 ⟨gvp (by decide) (by decide) (by decide), ?_⟩
    rw [hM 0 (by decide), gi_le (by omega) (by omega) (by omega) (by omega)]
    exact ⟨fun _ => h, fun z => by omega⟩
  | d + 1, j, hj => by
    have h0 := hv.1
    obtain ⟨g1, g2⟩ := gsi (r0 := 22) (i := j) (by omega)
    refine s_X8_wrapped_14 ⟨gvp (by decide) (by decide) (by decide), ?_⟩
    rw [hM 0 (by decide), gi_le (by omega) (by omega) (by omega) (by omega)]
    refine ⟨fun z => by omega, fun _ => z_ci ⟨h1, h2⟩ ⟨by omega, by omega⟩ hv hM ⟨g1, ?_⟩⟩
    rw [show (gi 22 + gi (j : Int)) = (gi ((22 : Nat) : Int) + gi (j : Int)) from rfl, g2, hM _ (by omega), gi_mul, gi_add, gi_add]
    exact m_wr_l hv hM h1 h2 h d (j + 1) (by omega)
theorem m_wrapped (h1 : -2147483648 ≤ a) (h2 : a < 2147483648) (hS : Sys o I J) : Ml E 236 [.inr (31, 0, 0), .inl (.int (gi a))] I J B (eM o fun f => if 0 ≤ a ∧ a < 2 * f 0 then 0 else 2) (.inl (.int (gi (rM o fun f => wrF f a ((f 0).toNat))))) :=
  Ml.of hS (fun h Q X k => e_X8_wrapped (z_nw0 h fun I' t g => ⟨fun g2 => absurd g2 (by decide), fun _ => k I' t g _⟩)) fun f hv hM hs Q X k => e_X8_wrapped (z_nw1 hs h1 h2 hv hM
    (fun g1 g2 I' t g => ⟨fun _ => m_wr_l hv (t.mrow hM) g1 g2 (Kok k t.q JQ.rf g (if_pos ⟨g1, g2⟩) rfl) (f 0).toNat 0 (by omega), fun z => absurd rfl z⟩)
    (fun g1 I' t g => ⟨fun z => absurd z (by decide), fun _ => Kno k t.q JQ.rf 1 g (if_neg g1)⟩))
def psF (f : Nat → Int) : Nat → Nat → Bool
  | 0, _ => true
  | d + 1, i => if gi (pdF f i ((f 0).toNat)) = gi (f (15 + i)) then psF f d (i + 1) else false
theorem c_ps_l (hv : Vf f) (hR : Rst f I J 0) {x : Int} (h : Q (.inl (.int (gi x))) I J B) : ∀ d i : Nat, i + d = (f 0).toNat → bI (psF f d i) = x → gG E 95 6 [(0, .inr (3, 0, 0)), (1, .inl (.int (gi i)))] [] I J B c w Q X
  | 0, i, hi, hx => by
    have h0 := hv.1
    obtain rfl : i = (f 0).toNat := hi
    refine s_X7_probeSolves_6 ?_
    rw [hR.1.1, gi_le (by omega) (by omega) (by omega) (by omega)]
    rw [← hx] at h
    exact ⟨fun _ => ⟨Or.inr rfl, h⟩, fun z => by omega⟩
  | d + 1, i, hi, hx => by
    have h0 := hv.1
    refine s_X7_probeSolves_6 ?_
    rw [hR.1.1, gi_le (by omega) (by omega) (by omega) (by omega)]
    refine ⟨fun z => by omega, fun _ => z_tp hv hR (by omega) ⟨gvp (by omega) (by omega) (by decide), ?_⟩⟩
    rw [gi_c (by omega) (by omega), gtn, hR.1.2.2.2.1 i (by omega), gi_add]
    unfold psF at hx
    refine ⟨fun z => ?_, fun z => ⟨Or.inl rfl, ?_⟩⟩
    · rw [if_pos z] at hx
      exact c_ps_l hv hR h d (i + 1) (by omega) hx
    · rw [if_neg z] at hx
      rw [← hx] at h
      exact h
theorem c_probeSolves (hS : Sys o I J) : Cl E 95 [.inr (3, 0, 0)] I J B (eM o fun _ => 0) (.inl (.int (gi (rM o fun f => bI (psF f ((f 0).toNat) 0))))) :=
  Cl.of hS (fun h Q X k => e_X7_probeSolves ⟨⟨by decide, by decide⟩, z_rs0 h k⟩) fun f hv hR Q X k1 k2 => e_X7_probeSolves ⟨⟨by decide, by decide⟩, z_rs hv hR (c_ps_l hv hR (k1 rfl I J QF.rf JQ.rf) (f 0).toNat 0 (by omega) rfl)⟩
theorem m_ps_0 {y2 : Int32} (h : Q (.inl (.int (gi 0))) I J B) : gG E 237 15 [(0, .inr (31, 0, 0)), (1, .inl (.int (gi 0))), (2, .inl (.int y2))] [] I J B c w Q X :=
  s_X8_probeSolves_15 ⟨gvp (by decide) (by decide) (by decide), fun _ => ⟨Or.inl rfl, h⟩, fun _ => ⟨fun _ => ⟨Or.inl rfl, h⟩, fun z => absurd rfl z⟩⟩
theorem m_ps_l (hv : Vf f) (hM : Mrow f I) {x : Int} (h : Q (.inl (.int (gi x))) I J B) : ∀ d i : Nat, i + d = (f 0).toNat → bI (psF f d i) = x → gG E 237 15 [(0, .inr (31, 0, 0)), (1, .inl (.int (gi 1))), (2, .inl (.int (gi i)))] [] I J B c w Q X
  | 0, i, hi, hx => by
    have h0 := hv.1
    obtain rfl : i = (f 0).toNat := hi
    refine s_X8_probeSolves_15 ⟨gvp (by decide) (by decide) (by decide), ?_⟩
    rw [hM 0 (by decide), gi_le (by omega) (by omega) (by omega) (by omega)]
    rw [← hx] at h
    exact ⟨fun _ => ⟨Or.inr rfl, h⟩, fun z => by omega⟩
  | d + 1, i, hi, hx => by
    have h0 := hv.1
    obtain ⟨g1, g2⟩ := gsi (r0 := 15) (i := i) (by omega)
    refine s_X8_probeSolves_15 ⟨gvp (by decide) (by decide) (by decide), ?_⟩
    rw [hM 0 (by decide), gi_le (by omega) (by omega) (by omega) (by omega)]
    refine ⟨fun z => by omega, fun _ => ⟨fun z => absurd z (by decide), fun _ => z_po hv hM (by omega) ⟨g1, ?_⟩⟩⟩
    rw [show (gi 15 + gi (i : Int)) = (gi ((15 : Nat) : Int) + gi (i : Int)) from rfl, g2, hM _ (by omega), gi_add]
    unfold psF at hx
    refine ⟨fun z => ?_, fun z => ?_⟩
    · rw [if_neg z] at hx
      rw [← hx] at h
      exact m_ps_0 h
    · rw [if_pos z] at hx
      exact m_ps_l hv hM h d (i + 1) (by omega) hx
theorem m_probeSolves (hS : Sys o I J) : Ml E 237 [.inr (31, 0, 0)] I J B (eM o fun _ => 0) (.inl (.int (gi (rM o fun f => bI (psF f ((f 0).toNat) 0))))) :=
  Ml.of hS (fun h Q X k => e_X8_probeSolves (z_ns0 h fun I' t g => ⟨fun _ => m_ps_0 (k I' t g _), fun g2 => absurd g2 (by decide)⟩)) fun f hv hM hs Q X k => e_X8_probeSolves (z_ns1 hs fun I' t g => ⟨fun z => absurd rfl z, fun _ => m_ps_l hv (t.mrow hM) (Kok k t.q JQ.rf g rfl rfl) (f 0).toNat 0 (by omega) rfl⟩)
end YF
