section YD
variable {E : gEn} {Q : gQt} {X : gXt} {I : gI} {J : gJ} {B : gB} {c w : Nat} {f : Nat → Int} {o : Option (Nat → Int)} {a b d : Int}
theorem Kok {e : Nat} {x r : Int32} (k : ∀ I' J', QF I I' → JQ J J' → I' 31 0 0 0 = gi e → ∀ r : Int32, (e = 0 → (.inl (.int x) : gV) = .inl (.int r)) → Q (.inl (.int r)) I' J' B) {I' : gI} {J' : gJ} (q : QF I I') (j : JQ J J') (h : I' 31 0 0 0 = gi 0) (he : e = 0) (hr : x = r) : Q (.inl (.int r)) I' J' B :=
  k I' J' q j (by rw [he]; exact h) r fun _ => by rw [hr]
theorem Kno {e : Nat} {v : gV} {r : Int32} (k : ∀ I' J', QF I I' → JQ J J' → I' 31 0 0 0 = gi e → ∀ r : Int32, (e = 0 → v = .inl (.int r)) → Q (.inl (.int r)) I' J' B) {I' : gI} {J' : gJ} (q : QF I I') (j : JQ J J') (n : Nat) (h : I' 31 0 0 0 = gi ((n + 1 : Nat) : Int)) (he : e = n + 1) : Q (.inl (.int r)) I' J' B :=
  k I' J' q j (by rw [he]; exact h) r fun z => by rw [he] at z; exact absurd z (Nat.succ_ne_zero n)
theorem c_diagonal (h1 : -2147483648 ≤ a) (h2 : a < 2147483648) (hS : Sys o I J) : Cl E 59 [.inr (3, 0, 0), .inl (.int (gi a))] I J B (eM o fun f => if -f 0 < a ∧ a < f 0 then 0 else 2) (.inl (.int (gi (rM o fun f => dg f a)))) :=
  Cl.of hS (fun h Q X k => e_X7_diagonal ⟨⟨by decide, by decide⟩, z_rs0 h k⟩) fun f hv hR Q X k1 k2 => e_X7_diagonal ⟨⟨by decide, by decide⟩, z_rs hv hR ⟨⟨by decide, by decide⟩, z_rd2 h1 h2 hv hR
    (fun g1 g2 => z_along (hR.dia hv) (by have := hv.1; omega) (by have := hv.1; omega) (k1 (if_pos ⟨g1, g2⟩) I J QF.rf JQ.rf)) (fun g => k2 1 (if_neg g) I J QF.rf JQ.rf)⟩⟩
theorem m_diagonal (h1 : -2147483648 ≤ a) (h2 : a < 2147483648) (hS : Sys o I J) : Ml E 168 [.inr (31, 0, 0), .inl (.int (gi a))] I J B (eM o fun f => if -f 0 < a ∧ a < f 0 then 0 else 2) (.inl (.int (gi (rM o fun f => dg f a)))) :=
  Ml.of hS (fun h Q X k => e_X8_diagonal (z_ns0 h fun I' t g => ⟨fun _ => k I' t g _, fun g2 => absurd g2 (by decide)⟩)) fun f hv hM hs Q X k => e_X8_diagonal (z_ns1 hs fun I' t g => ⟨fun z => absurd rfl z, fun _ => z_isDia h1 h2 hv (t.mrow hM)
    (fun g1 g2 => ⟨fun _ => z_rf0 g ⟨fun _ => by
      have h0 := hv.1
      rw [gi_add, gi_c (by omega) (by omega), (t.mrow hM) _ (by omega)]
      exact ⟨gvp (by omega) (by omega) (by decide), Kok k t.q JQ.rf g (if_pos ⟨g1, g2⟩) (by rw [dg_in (by omega) (by omega), Int.add_comm])⟩, fun z => absurd rfl z⟩, fun z => absurd z (by decide)⟩)
    (fun g1 => ⟨fun z => absurd rfl z, fun _ => z_rf1 g (by decide) ⟨fun z => absurd z (by decide), fun _ => Kno k t.up.q JQ.rf 1 th_up (if_neg g1)⟩⟩)⟩)
theorem c_entry (h1 : -2147483648 ≤ a) (h2 : a < 2147483648) (h3 : -2147483648 ≤ b) (h4 : b < 2147483648) (hS : Sys o I J) : Cl E 60 [.inr (3, 0, 0), .inl (.int (gi a)), .inl (.int (gi b))] I J B (eM o fun f => if (0 ≤ a ∧ a < f 0) ∧ (0 ≤ b ∧ b < f 0) then 0 else 2) (.inl (.int (gi (rM o fun f => dg f (a - b))))) :=
  Cl.of hS (fun h Q X k => e_X7_entry ⟨⟨by decide, by decide⟩, z_rs0 h k⟩) fun f hv hR Q X k1 k2 => e_X7_entry ⟨⟨by decide, by decide⟩, z_rs hv hR ⟨⟨by decide, by decide⟩, z_rr h1 h2 hv hR
    (fun g1 g2 => ⟨⟨by decide, by decide⟩, z_rr h3 h4 hv hR (fun g3 g4 => by
      have h0 := hv.1
      rw [gi_sub]
      exact z_along (hR.dia hv) (by omega) (by omega) (k1 (if_pos ⟨⟨g1, g2⟩, ⟨g3, g4⟩⟩) I J QF.rf JQ.rf)) (fun g => k2 1 (if_neg (fun z => g z.2)) I J QF.rf JQ.rf)⟩) (fun g => k2 1 (if_neg (fun z => g z.1)) I J QF.rf JQ.rf)⟩⟩
theorem z_ent2 {i j : Int} (hM : Mrow f I) (hi : 0 ≤ i ∧ i < 7) (hj : 0 ≤ j ∧ j < 7) (h : Q (.inl (.int (gi (dg f (i - j))))) I J B) : gC E 167 [.inr (31, 0, 0), .inl (.int (gi i)), .inl (.int (gi j))] I J B Q X := by
  obtain ⟨i, rfl⟩ : ∃ n : Nat, i = n := ⟨i.toNat, by omega⟩
  obtain ⟨j, rfl⟩ : ∃ n : Nat, j = n := ⟨j.toNat, by omega⟩
  exact z_ent hM (by omega) (by omega) h
theorem m_entry (h1 : -2147483648 ≤ a) (h2 : a < 2147483648) (h3 : -2147483648 ≤ b) (h4 : b < 2147483648) (hS : Sys o I J) : Ml E 169 [.inr (31, 0, 0), .inl (.int (gi a)), .inl (.int (gi b))] I J B (eM o fun f => if (0 ≤ a ∧ a < f 0) ∧ (0 ≤ b ∧ b < f 0) then 0 else 2) (.inl (.int (gi (rM o fun f => dg f (a - b))))) :=
  Ml.of hS (fun h Q X k => e_X8_entry (z_nrr0 h fun I' t g => ⟨fun g2 => absurd g2 (by decide), fun _ => k I' t g _⟩)) fun f hv hM hs Q X k => e_X8_entry (z_nrr1 hs h1 h2 h3 h4 hv hM
    (fun g1 g2 I' t g => ⟨fun _ => z_ent2 (t.mrow hM) (by have := hv.1; omega) (by have := hv.1; omega) (Kok k t.q JQ.rf g (if_pos ⟨g1, g2⟩) rfl), fun z => absurd rfl z⟩)
    (fun g1 I' t g => ⟨fun z => absurd z (by decide), fun _ => Kno k t.q JQ.rf 1 g (if_neg g1)⟩))
theorem z_idx {r0 : Nat} {i : Int} (hi : 0 ≤ i ∧ i < 7) (h : r0 + 7 ≤ 408) : vp_in (gi (r0 : Int) + gi i) 408 ∧ Int32.toNatClampNeg (gi (r0 : Int) + gi i) = r0 + i.toNat := by
  have := gsi (r0 := r0) (i := i.toNat) (by omega)
  rw [show ((i.toNat : Nat) : Int) = i by omega] at this
  exact this
theorem c_side (h1 : -2147483648 ≤ a) (h2 : a < 2147483648) (hS : Sys o I J) : Cl E 61 [.inr (3, 0, 0), .inl (.int (gi a))] I J B (eM o fun f => if 0 ≤ a ∧ a < f 0 then 0 else 2) (.inl (.int (gi (rM o fun f => f (15 + a.toNat))))) :=
  Cl.of hS (fun h Q X k => e_X7_side ⟨⟨by decide, by decide⟩, z_rs0 h k⟩) fun f hv hR Q X k1 k2 => e_X7_side ⟨⟨by decide, by decide⟩, z_rs hv hR ⟨⟨by decide, by decide⟩, z_rr h1 h2 hv hR
    (fun g1 g2 => by
      have h0 := hv.1
      show vp_in _ 7 ∧ Q (.inl (.int (I 8 0 0 _))) I J B
      rw [gi_c h1 h2, hR.1.2.2.2.1 _ (by omega)]
      exact ⟨gvp g1 (by omega) (by decide), k1 (if_pos ⟨g1, g2⟩) I J QF.rf JQ.rf⟩) (fun g => k2 1 (if_neg g) I J QF.rf JQ.rf)⟩⟩
theorem m_side (h1 : -2147483648 ≤ a) (h2 : a < 2147483648) (hS : Sys o I J) : Ml E 170 [.inr (31, 0, 0), .inl (.int (gi a))] I J B (eM o fun f => if 0 ≤ a ∧ a < f 0 then 0 else 2) (.inl (.int (gi (rM o fun f => f (15 + a.toNat))))) :=
  Ml.of hS (fun h Q X k => e_X8_side (z_nr0 h fun I' t g => ⟨fun g2 => absurd g2 (by decide), fun _ => k I' t g _⟩)) fun f hv hM hs Q X k => e_X8_side (z_nr1 hs h1 h2 hv hM
    (fun g1 g2 I' t g => ⟨fun _ => by
      have h0 := hv.1
      obtain ⟨q1, q2⟩ := z_idx (r0 := 15) (i := a) (by omega) (by decide)
      rw [show (gi 15 + gi a) = (gi ((15 : Nat) : Int) + gi a) from rfl, q2, (t.mrow hM) _ (by omega)]
      exact ⟨q1, Kok k t.q JQ.rf g (if_pos ⟨g1, g2⟩) rfl⟩, fun z => absurd rfl z⟩)
    (fun g1 I' t g => ⟨fun z => absurd z (by decide), fun _ => Kno k t.q JQ.rf 1 g (if_neg g1)⟩))
theorem c_probe (h1 : -2147483648 ≤ a) (h2 : a < 2147483648) (hS : Sys o I J) : Cl E 62 [.inr (3, 0, 0), .inl (.int (gi a))] I J B (eM o fun f => if 0 ≤ a ∧ a < f 0 then 0 else 2) (.inl (.int (gi (rM o fun f => f (22 + a.toNat))))) :=
  Cl.of hS (fun h Q X k => e_X7_probe ⟨⟨by decide, by decide⟩, z_rs0 h k⟩) fun f hv hR Q X k1 k2 => e_X7_probe ⟨⟨by decide, by decide⟩, z_rs hv hR ⟨⟨by decide, by decide⟩, z_rr h1 h2 hv hR
    (fun g1 g2 => by
      have h0 := hv.1
      show vp_in _ 7 ∧ Q (.inl (.int (I 9 0 0 _))) I J B
      rw [gi_c h1 h2, hR.1.2.2.2.2.1 _ (by omega)]
      exact ⟨gvp g1 (by omega) (by decide), k1 (if_pos ⟨g1, g2⟩) I J QF.rf JQ.rf⟩) (fun g => k2 1 (if_neg g) I J QF.rf JQ.rf)⟩⟩
theorem m_probe (h1 : -2147483648 ≤ a) (h2 : a < 2147483648) (hS : Sys o I J) : Ml E 171 [.inr (31, 0, 0), .inl (.int (gi a))] I J B (eM o fun f => if 0 ≤ a ∧ a < f 0 then 0 else 2) (.inl (.int (gi (rM o fun f => f (22 + a.toNat))))) :=
  Ml.of hS (fun h Q X k => e_X8_probe (z_nr0 h fun I' t g => ⟨fun g2 => absurd g2 (by decide), fun _ => k I' t g _⟩)) fun f hv hM hs Q X k => e_X8_probe (z_nr1 hs h1 h2 hv hM
    (fun g1 g2 I' t g => ⟨fun _ => by
      have h0 := hv.1
      obtain ⟨q1, q2⟩ := z_idx (r0 := 22) (i := a) (by omega) (by decide)
      rw [show (gi 22 + gi a) = (gi ((22 : Nat) : Int) + gi a) from rfl, q2, (t.mrow hM) _ (by omega)]
      exact ⟨q1, Kok k t.q JQ.rf g (if_pos ⟨g1, g2⟩) rfl⟩, fun z => absurd rfl z⟩)
    (fun g1 I' t g => ⟨fun z => absurd z (by decide), fun _ => Kno k t.q JQ.rf 1 g (if_neg g1)⟩))
theorem c_residual (h1 : -2147483648 ≤ a) (h2 : a < 2147483648) (hS : Sys o I J) : Cl E 84 [.inr (3, 0, 0), .inl (.int (gi a))] I J B (eM o fun f => if 0 ≤ a ∧ a < f 0 then 0 else 2) (.inl (.int (gi (rM o fun f => f (29 + a.toNat))))) :=
  Cl.of hS (fun h Q X k => e_X7_residual ⟨⟨by decide, by decide⟩, z_rs0 h k⟩) fun f hv hR Q X k1 k2 => e_X7_residual ⟨⟨by decide, by decide⟩, z_rs hv hR ⟨⟨by decide, by decide⟩, z_rr h1 h2 hv hR
    (fun g1 g2 => by
      have h0 := hv.1
      show vp_in _ 7 ∧ Q (.inl (.int (I 11 0 0 _))) I J B
      rw [gi_c h1 h2, hR.2.2.2.2 _ (by omega)]
      exact ⟨gvp g1 (by omega) (by decide), k1 (if_pos ⟨g1, g2⟩) I J QF.rf JQ.rf⟩) (fun g => k2 1 (if_neg g) I J QF.rf JQ.rf)⟩⟩
theorem m_residual (h1 : -2147483648 ≤ a) (h2 : a < 2147483648) (hS : Sys o I J) : Ml E 216 [.inr (31, 0, 0), .inl (.int (gi a))] I J B (eM o fun f => if 0 ≤ a ∧ a < f 0 then 0 else 2) (.inl (.int (gi (rM o fun f => f (29 + a.toNat))))) :=
  Ml.of hS (fun h Q X k => e_X8_residual (z_nr0 h fun I' t g => ⟨fun g2 => absurd g2 (by decide), fun _ => k I' t g _⟩)) fun f hv hM hs Q X k => e_X8_residual (z_nr1 hs h1 h2 hv hM
    (fun g1 g2 I' t g => ⟨fun _ => by
      have h0 := hv.1
      obtain ⟨q1, q2⟩ := z_idx (r0 := 29) (i := a) (by omega) (by decide)
      rw [show (gi 29 + gi a) = (gi ((29 : Nat) : Int) + gi a) from rfl, q2, (t.mrow hM) _ (by omega)]
      exact ⟨q1, Kok k t.q JQ.rf g (if_pos ⟨g1, g2⟩) rfl⟩, fun z => absurd rfl z⟩)
    (fun g1 I' t g => ⟨fun z => absurd z (by decide), fun _ => Kno k t.q JQ.rf 1 g (if_neg g1)⟩))
theorem c_minor (h1 : -2147483648 ≤ a) (h2 : a < 2147483648) (hS : Sys o I J) : Cl E 63 [.inr (3, 0, 0), .inl (.int (gi a))] I J B (eM o fun f => if 0 ≤ a ∧ a ≤ f 0 then 0 else 2) (.inl (.int (gi (rM o fun f => detF f (f 1) a.toNat)))) :=
  Cl.of hS (fun h Q X k => e_X7_minor ⟨⟨by decide, by decide⟩, z_rs0 h k⟩) fun f hv hR Q X k1 k2 => e_X7_minor ⟨⟨by decide, by decide⟩, z_rs hv hR ⟨⟨by decide, by decide⟩, z_rz h1 h2 hv hR
    (fun g1 g2 => by
      obtain ⟨s, rfl⟩ : ∃ s : Nat, a = s := ⟨a.toNat, by omega⟩
      rw [hR.1.2.1]
      exact z_lm hv hR (by omega) hv.2.1 fun I' fg => k1 (if_pos ⟨g1, g2⟩) I' J fg.q JQ.rf) (fun g => k2 1 (if_neg g) I J QF.rf JQ.rf)⟩⟩
theorem m_minor (h1 : -2147483648 ≤ a) (h2 : a < 2147483648) (hS : Sys o I J) : Ml E 180 [.inr (31, 0, 0), .inl (.int (gi a))] I J B (eM o fun f => if 0 ≤ a ∧ a ≤ f 0 then 0 else 2) (.inl (.int (gi (rM o fun f => detF f (f 1) a.toNat)))) :=
  Ml.of hS (fun h Q X k => e_X8_minor (z_ns0 h fun I' t g => ⟨fun _ => k I' t g _, fun g2 => absurd g2 (by decide)⟩)) fun f hv hM hs Q X k => e_X8_minor (z_ns1 hs fun I' t g => ⟨fun z => absurd rfl z, fun _ => ⟨gvp (by decide) (by decide) (by decide), by
    have h0 := hv.1
    rw [(t.mrow hM) 0 (by decide)]
    refine z_inr g (by decide) h1 h2 (by decide) (by decide) (by omega) (by omega) (fun g1 g2 => ⟨fun _ => ?_, fun z => absurd rfl z⟩) (fun g1 => ⟨fun z => absurd z (by decide), fun _ => Kno k t.up.q JQ.rf 1 th_up (if_neg g1)⟩)
    obtain ⟨s, rfl⟩ : ∃ s : Nat, a = s := ⟨a.toNat, by omega⟩
    exact z_mn hv (t.mrow hM) (by omega) fun I2 fp => Kok k (t.q.tr fp.q) JQ.rf ((fp 31 0 0 0 (by decide) (by decide)).trans g) (if_pos ⟨g1, g2⟩) rfl⟩⟩)
theorem c_rank (hS : Sys o I J) : Cl E 64 [.inr (3, 0, 0)] I J B (eM o fun _ => 0) (.inl (.int (gi (rM o fun f => (rkF f : Nat))))) :=
  Cl.of hS (fun h Q X k => e_X7_rank ⟨⟨by decide, by decide⟩, z_rs0 h k⟩) fun f hv hR Q X k1 k2 => e_X7_rank ⟨⟨by decide, by decide⟩, z_rs hv hR (by
    have h0 := hv.1
    have hp := hv.p
    rw [hR.1.1, hR.1.2.1, show f 0 = (((f 0).toNat : Nat) : Int) by omega]
    refine z_take (size := (f 0).toNat) (more := 0) (by omega) (by omega) (by omega) (by omega) (hR.dia hv) fun I2 h1 h2 => ?_
    show gC _ _ _ _ _ _ _ _
    rw [((QF.rst h1.q JQ.rf hR (by decide)).1).1, show f 0 = (((f 0).toNat : Nat) : Int) by omega]
    exact z_el (by omega) (by omega) (Nat.le_refl _) (by omega) (by omega) (by omega) h2 (Rg.mt (by omega)) fun I3 h3 => k1 rfl I3 J (h1.q.tr h3.1.q) JQ.rf)⟩
theorem m_rank (hS : Sys o I J) : Ml E 183 [.inr (31, 0, 0)] I J B (eM o fun _ => 0) (.inl (.int (gi (rM o fun f => (rkF f : Nat))))) :=
  Ml.of hS (fun h Q X k => e_X8_rank (z_ns0 h fun I' t g => ⟨fun g2 => absurd g2 (by decide), fun _ => k I' t g _⟩)) fun f hv hM hs Q X k => e_X8_rank (z_ns1 hs fun I' t g => ⟨fun _ => z_rk hv (t.mrow hM) fun I2 fg _ _ => Kok k (t.q.tr fg.q) JQ.rf ((fg 31 0 0 0 (by decide) (by decide) (by decide)).trans g) rfl rfl, fun z => absurd rfl z⟩)
theorem rg_det (hv : Vf f) : rgB f = decide (detF f (f 1) ((f 0).toNat) ≠ 0) := by
  unfold rgB
  rw [decide_eq_decide]
  exact (det_reg hv.2.1).symm
theorem c_isRegular (hS : Sys o I J) : Cl E 65 [.inr (3, 0, 0)] I J B (eM o fun _ => 0) (.inl (.int (gi (rM o fun f => bI (rgB f))))) :=
  Cl.of hS (fun h Q X k => e_X7_isRegular ⟨⟨by decide, by decide⟩, z_rs0 h k⟩) fun f hv hR Q X k1 k2 => e_X7_isRegular ⟨⟨by decide, by decide⟩, z_rs hv hR (by
    have h0 := hv.1
    have hp := hv.p
    rw [hR.1.1, hR.1.2.1, show f 0 = (((f 0).toNat : Nat) : Int) by omega]
    refine z_lm hv hR (Nat.le_refl _) hv.2.1 fun I' fg => ?_
    have hb := elF_b (lim := (f 0).toNat) (M := mtF f (f 1) ((f 0).toNat)) (show 1 ≤ f 1 by omega) (Rg.mt (by omega)) ((f 0).toNat)
    have hb2 : 0 ≤ detF f (f 1) ((f 0).toNat) ∧ detF f (f 1) ((f 0).toNat) < f 1 := hb.2.1
    have k1 := k1 rfl I' J fg.q JQ.rf
    rw [rg_det hv] at k1
    show (gi _ = gi 0 → _) ∧ (¬ gi _ = gi 0 → _)
    rw [gi_eq (by omega) (by omega) (by decide) (by decide)]
    refine ⟨fun z => ⟨Or.inl rfl, ?_⟩, fun z => ⟨Or.inr rfl, ?_⟩⟩
    · rw [decide_eq_false (fun h => h z)] at k1
      exact k1
    · rw [decide_eq_true z] at k1
      exact k1)⟩
theorem m_isRegular (hS : Sys o I J) : Ml E 185 [.inr (31, 0, 0)] I J B (eM o fun _ => 0) (.inl (.int (gi (rM o fun f => bI (rgB f))))) :=
  Ml.of hS (fun h Q X k => e_X8_isRegular (z_ns0 h fun I' t g => ⟨fun _ => ⟨Or.inl rfl, k I' t g _⟩, fun g2 => absurd g2 (by decide)⟩)) fun f hv hM hs Q X k => e_X8_isRegular (z_ns1 hs fun I' t g => ⟨fun z => absurd rfl z, fun _ => z_reg hv (t.mrow hM) fun I2 fg => by
    have hth : I2 31 0 0 0 = gi 0 := (fg 31 0 0 0 (by decide) (by decide)).trans g
    cases hr : rgB f with
    | false => exact ⟨fun _ => ⟨Or.inl rfl, Kok k (t.q.tr fg.q) JQ.rf hth rfl (by rw [hr]; rfl)⟩, fun z => absurd rfl z⟩
    | true => exact ⟨fun z => absurd z (by decide), fun _ => ⟨Or.inr rfl, Kok k (t.q.tr fg.q) JQ.rf hth rfl (by rw [hr]; rfl)⟩⟩⟩)
end YD
