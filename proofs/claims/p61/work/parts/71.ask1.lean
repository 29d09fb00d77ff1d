section YD
variable {E : gEn} {Q : gQt} {X : gXt} {I : gI} {J : gJ} {B : gB} {c w : Nat} {f : Nat → Int} {o : Option (Nat → Int)} {a b d : Int}
theorem c_diagonal (h1 : -2147483648 ≤ a) (h2 : a < 2147483648) (hS : Sys o I J) : Cl E 59 [.inr (3, 0, 0), .inl (.int (gi a))] I J B (eM o fun f => if -f 0 < a ∧ a < f 0 then 0 else 2) (.inl (.int (gi (rM o fun f => dg f a)))) :=
  Cl.of hS (fun h Q X k => e_X7_diagonal ⟨⟨by decide, by decide⟩, z_rs0 h k⟩) fun f hv hR Q X k1 k2 => e_X7_diagonal ⟨⟨by decide, by decide⟩, z_rs hv hR ⟨⟨by decide, by decide⟩, z_rd2 h1 h2 hv hR
    (fun g1 g2 => z_along (hR.dia hv) (by have := hv.1; omega) (by have := hv.1; omega) (k1 (if_pos ⟨g1, g2⟩) I J QF.rf JQ.rf)) (fun g => k2 1 (if_neg g) I J QF.rf JQ.rf)⟩⟩
theorem c_entry (h1 : -2147483648 ≤ a) (h2 : a < 2147483648) (h3 : -2147483648 ≤ b) (h4 : b < 2147483648) (hS : Sys o I J) : Cl E 60 [.inr (3, 0, 0), .inl (.int (gi a)), .inl (.int (gi b))] I J B (eM o fun f => if (0 ≤ a ∧ a < f 0) ∧ (0 ≤ b ∧ b < f 0) then 0 else 2) (.inl (.int (gi (rM o fun f => dg f (a - b))))) :=
  Cl.of hS (fun h Q X k => e_X7_entry ⟨⟨by decide, by decide⟩, z_rs0 h k⟩) fun f hv hR Q X k1 k2 => e_X7_entry ⟨⟨by decide, by decide⟩, z_rs hv hR ⟨⟨by decide, by decide⟩, z_rr h1 h2 hv hR
    (fun g1 g2 => ⟨⟨by decide, by decide⟩, z_rr h3 h4 hv hR (fun g3 g4 => by
      have h0 := hv.1
      rw [gi_sub]
      exact z_along (hR.dia hv) (by omega) (by omega) (k1 (if_pos ⟨⟨g1, g2⟩, ⟨g3, g4⟩⟩) I J QF.rf JQ.rf)) (fun g => k2 1 (if_neg (fun z => g z.2)) I J QF.rf JQ.rf)⟩) (fun g => k2 1 (if_neg (fun z => g z.1)) I J QF.rf JQ.rf)⟩⟩
theorem z_idx {r0 : Nat} {i : Int} (hi : 0 ≤ i ∧ i < 7) (h : r0 + 7 ≤ 408) : vp_in (gi (r0 : Int) + gi i) 408 ∧ Int32.toNatClampNeg (gi (r0 : Int) + gi i) = r0 + i.toNat := by
  have := gsi (r0 := r0) (i := i.toNat) (by omega)
  rw [show ((i.toNat : Nat) : Int) = i by omega] at this
  exact this
theorem c_side (h1 : -2147483648 ≤ a) (h2 : a < 2147483648) (hS : Sys o I J) : Cl E 61 [.inr (3, 0, 0), .inl (.int (gi a))] I J B (eM o fun f => if 0 ≤ a ∧ a < f 0 then 0 else 2) (.inl (.int (gi (rM o fun f => f (15 + a.toNat))))) :=
  Cl.of hS (fun h Q X k => e_X7_side ⟨⟨by decide, by decide⟩, z_rs0 h k⟩) fun f hv hR Q X k1 k2 => e_X7_side ⟨⟨by decide, by decide⟩, z_rs hv hR ⟨⟨by decide, by decide⟩, z_rr h1 h2 hv hR
    (fun g1 g2 => by
      have h0 := hv.1
      show vp_in _ 7 ∧ Q (.inl (.int (I 8 0 0 _))) I J B
      rw [gi_c h1 h2, hR.1.2.2.2.1 _ (by omega)]
      exact ⟨gvp g1 (by omega) (by decide), k1 (if_pos ⟨g1, g2⟩) I J QF.rf JQ.rf⟩) (fun g => k2 1 (if_neg g) I J QF.rf JQ.rf)⟩⟩
theorem c_probe (h1 : -2147483648 ≤ a) (h2 : a < 2147483648) (hS : Sys o I J) : Cl E 62 [.inr (3, 0, 0), .inl (.int (gi a))] I J B (eM o fun f => if 0 ≤ a ∧ a < f 0 then 0 else 2) (.inl (.int (gi (rM o fun f => f (22 + a.toNat))))) :=
  Cl.of hS (fun h Q X k => e_X7_probe ⟨⟨by decide, by decide⟩, z_rs0 h k⟩) fun f hv hR Q X k1 k2 => e_X7_probe ⟨⟨by decide, by decide⟩, z_rs hv hR ⟨⟨by decide, by decide⟩, z_rr h1 h2 hv hR
    (fun g1 g2 => by
      have h0 := hv.1
      show vp_in _ 7 ∧ Q (.inl (.int (I 9 0 0 _))) I J B
      rw [gi_c h1 h2, hR.1.2.2.2.2.1 _ (by omega)]
      exact ⟨gvp g1 (by omega) (by decide), k1 (if_pos ⟨g1, g2⟩) I J QF.rf JQ.rf⟩) (fun g => k2 1 (if_neg g) I J QF.rf JQ.rf)⟩⟩
theorem c_residual (h1 : -2147483648 ≤ a) (h2 : a < 2147483648) (hS : Sys o I J) : Cl E 84 [.inr (3, 0, 0), .inl (.int (gi a))] I J B (eM o fun f => if 0 ≤ a ∧ a < f 0 then 0 else 2) (.inl (.int (gi (rM o fun f => f (29 + a.toNat))))) :=
  Cl.of hS (fun h Q X k => e_X7_residual ⟨⟨by decide, by decide⟩, z_rs0 h k⟩) fun f hv hR Q X k1 k2 => e_X7_residual ⟨⟨by decide, by decide⟩, z_rs hv hR ⟨⟨by decide, by decide⟩, z_rr h1 h2 hv hR
    (fun g1 g2 => by
      have h0 := hv.1
      show vp_in _ 7 ∧ Q (.inl (.int (I 11 0 0 _))) I J B
      rw [gi_c h1 h2, hR.2.2.2.2 _ (by omega)]
      exact ⟨gvp g1 (by omega) (by decide), k1 (if_pos ⟨g1, g2⟩) I J QF.rf JQ.rf⟩) (fun g => k2 1 (if_neg g) I J QF.rf JQ.rf)⟩⟩
theorem c_minor (h1 : -2147483648 ≤ a) (h2 : a < 2147483648) (hS : Sys o I J) : Cl E 63 [.inr (3, 0, 0), .inl (.int (gi a))] I J B (eM o fun f => if 0 ≤ a ∧ a ≤ f 0 then 0 else 2) (.inl (.int (gi (rM o fun f => detF f (f 1) a.toNat)))) :=
  Cl.of hS (fun h Q X k => e_X7_minor ⟨⟨by decide, by decide⟩, z_rs0 h k⟩) fun f hv hR Q X k1 k2 => e_X7_minor ⟨⟨by decide, by decide⟩, z_rs hv hR ⟨⟨by decide, by decide⟩, z_rz h1 h2 hv hR
    (fun g1 g2 => by
      obtain ⟨s, rfl⟩ : ∃ s : Nat, a = s := ⟨a.toNat, by omega⟩
      rw [hR.1.2.1]
      exact z_lm hv hR (by omega) hv.2.1 fun I' fg => k1 (if_pos ⟨g1, g2⟩) I' J fg.q JQ.rf) (fun g => k2 1 (if_neg g) I J QF.rf JQ.rf)⟩⟩
theorem c_rank (hS : Sys o I J) : Cl E 64 [.inr (3, 0, 0)] I J B (eM o fun _ => 0) (.inl (.int (gi (rM o fun f => (rkF f : Nat))))) :=
  Cl.of hS (fun h Q X k => e_X7_rank ⟨⟨by decide, by decide⟩, z_rs0 h k⟩) fun f hv hR Q X k1 k2 => e_X7_rank ⟨⟨by decide, by decide⟩, z_rs hv hR (by
    have h0 := hv.1
    have hp := hv.p
    rw [hR.1.1, hR.1.2.1, show f 0 = (((f 0).toNat : Nat) : Int) by omega]
    refine z_take (size := (f 0).toNat) (more := 0) (by omega) (by omega) (by omega) (by omega) (hR.dia hv) fun I2 h1 h2 => ?_
    show gC _ _ _ _ _ _ _ _
    rw [((QF.rst h1.q JQ.rf hR (by decide)).1).1, show f 0 = (((f 0).toNat : Nat) : Int) by omega]
    exact z_el (by omega) (by omega) (Nat.le_refl _) (by omega) (by omega) (by omega) h2 (Rg.mt (by omega)) fun I3 h3 => k1 rfl I3 J (h1.q.tr h3.1.q) JQ.rf)⟩
theorem rg_det (hv : Vf f) : rgB f = decide (detF f (f 1) ((f 0).toNat) ≠ 0) := by
  unfold rgB
  rw [decide_eq_decide]
  exact (det_reg hv.2.1).symm
theorem c_isRegular (hS : Sys o I J) : Cl E 65 [.inr (3, 0, 0)] I J B (eM o fun _ => 0) (.inl (.int (gi (rM o fun f => bI (rgB f))))) :=
  Cl.of hS (fun h Q X k => e_X7_isRegular ⟨⟨by decide, by decide⟩, z_rs0 h k⟩) fun f hv hR Q X k1 k2 => e_X7_isRegular ⟨⟨by decide, by decide⟩, z_rs hv hR (by
    have h0 := hv.1
    have hp := hv.p
    rw [hR.1.1, hR.1.2.1, show f 0 = (((f 0).toNat : Nat) : Int) by omega]
    refine z_lm hv hR (Nat.le_refl _) hv.2.1 fun I' fg => ?_
    have hb := elF_b (lim := (f 0).toNat) (M := mtF f (f 1) ((f 0).toNat)) (show 1 ≤ f 1 by omega) (Rg.mt (by omega)) ((f 0).toNat)
    have hb2 : 0 ≤ detF f (f 1) ((f 0).toNat) ∧ detF f (f 1) ((f 0).toNat) < f 1 := hb.2.1
    have k1 := k1 rfl I' J fg.q JQ.rf
    rw [rg_det hv] at k1
    show (gi _ = gi 0 → _) ∧ (¬ gi _ = gi 0 → _)
    rw [gi_eq (by omega) (by omega) (by decide) (by decide)]
    refine ⟨fun z => ⟨Or.inl rfl, ?_⟩, fun z => ⟨Or.inr rfl, ?_⟩⟩
    · rw [decide_eq_false (fun h => h z)] at k1
      exact k1
    · rw [decide_eq_true z] at k1
      exact k1)⟩
end YD
