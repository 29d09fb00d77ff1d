theorem pr_ok {p : Int} {q i : Nat} (hp : p ∈ primesL) : ∀ (d j : Nat) (S : gPs), Rg p S.2.1 → Prw q i S → Rg p (prF p i d j S).2.1 ∧ Prw q i (prF p i d j S)
  | 0, _, _, h, hw => ⟨h, hw⟩
  | d + 1, j, S, h, hw => pr_ok hp d (j + 1) (pkF p S i j) (pk_rg (by have := pr_b hp; omega) h) (pk_row hp h hw)
theorem pa_ok {p : Int} {q R : Nat} (hp : p ∈ primesL) : ∀ (A i : Nat) (S : gPs), i + A = R → Rg p S.2.1 → S.1 + q ≤ i → (paF p q R A i S).1 + q ≤ R
  | 0, i, S, hi, _, hw => by show S.1 + q ≤ R; omega
  | A + 1, i, S, hi, h, hw => by
    obtain ⟨h1, h2⟩ := pr_ok (i := i) (q := q) hp (R - q) q S h ⟨by omega, fun z => by omega⟩
    exact pa_ok hp A (i + 1) _ (by omega) h1 h2.1
theorem prs_b {f : Nat → Int} {q : Nat} (hv : Vf f) (hq : q ≤ (f 0).toNat) : (prs f q).1 ≤ 7 := by
  have h0 := hv.1
  have := pa_ok (p := f 1) (q := q) (R := (f 0).toNat) hv.2.1 ((f 0).toNat - q) q (0, dpF (f 1) q (cpF f q), (fun _ _ => 0), fun _ _ => 0) (by omega) (Rg.dp (by have := hv.p; omega) (cp_rg hv)) (by show 0 + q ≤ q; omega)
  have h2 : (prs f q).1 + q ≤ (f 0).toNat := this
  omega
section YH
variable {E : gEn} {Q : gQt} {X : gXt} {I : gI} {J : gJ} {B : gB} {c w : Nat} {f : Nat → Int} {o : Option (Nat → Int)} {a b d : Int}
theorem st_le (hv : Vf f) (h1 : 0 ≤ a) (h2 : a < (ess f).length) : stE f a ≤ (f 0).toNat ∧ (stE f a : Int) ≤ f 0 ∧ stE f a ≤ 7 ∧ detF f (f 1) (stE f a) ≠ 0 := by
  have h := stE_le h1 h2
  have h0 := hv.1
  exact ⟨h, by omega, by omega, ess_det hv (getD_mem (show a.toNat < (ess f).length by omega))⟩
theorem z_npl1 (h : I 31 0 0 1 = gi 1) (h1 : -2147483648 ≤ a) (h2 : a < 2147483648) (h3 : -2147483648 ≤ b) (h4 : b < 2147483648) (h5 : -2147483648 ≤ d) (h6 : d < 2147483648) (hv : Vf f) (hM : Mrow f I)
    (k1 : (0 ≤ a ∧ a < (ess f).length) → (stE f a ≤ b ∧ b < f 0) → (stE f a ≤ d ∧ d < f 0) → ∀ I', QF I I' → I' 31 0 0 0 = gi 0 → (∀ j, j < (ess f).length → I' 40 0 0 j = gi ((ess f).getD j 0 : Nat)) → Q (.inl (.int (gi 0))) I' J B) (k2 : ¬ ((0 ≤ a ∧ a < (ess f).length) ∧ (stE f a ≤ b ∧ b < f 0) ∧ (stE f a ≤ d ∧ d < f 0)) → ∀ I', QF I I' → I' 31 0 0 0 = gi 2 → Q (.inl (.int (gi 1))) I' J B) : gC E 198 [.inr (31, 0, 0), .inl (.int (gi a)), .inl (.int (gi b)), .inl (.int (gi d))] I J B Q X := by
  have h0 := hv.1
  refine e_X8_noPlace (z_nst1 h h1 h2 hv hM (fun g1 g2 I' q g e => ⟨fun z => absurd rfl z, fun _ => ?_⟩) (fun g1 I' q g => ⟨fun _ => ⟨Or.inr rfl, k2 (fun z => g1 z.1) I' q g⟩, fun z => absurd z (by decide)⟩))
  obtain ⟨p1, p2⟩ := z_en hv g1 g2 e
  obtain ⟨s1, s2, s3, s4⟩ := st_le hv g1 g2
  have hM1 := q.mrow hM
  rw [p2, hM1 0 (by decide), gi_sub]
  refine ⟨p1, gvp (by decide) (by decide) (by decide), z_in h3 h4 (by omega) (by omega) (by omega) (by omega) (fun g3 g4 => ⟨fun z => absurd z (by decide), fun _ => ⟨p1, gvp (by decide) (by decide) (by decide), ?_⟩⟩) (fun g3 => ⟨fun _ => z_rf1 g (by decide) ⟨fun z => absurd z (by decide), fun _ => ⟨Or.inr rfl, k2 (fun z => g3 ⟨z.2.1.1, by omega⟩) _ (q.tr (T0.rf.up).q) th_up⟩⟩, fun z => absurd rfl z⟩)⟩
  rw [p2, hM1 0 (by decide), gi_sub]
  exact z_inr g (by decide) h5 h6 (by omega) (by omega) (by omega) (by omega) (fun g5 g6 => ⟨fun _ => ⟨Or.inl rfl, k1 ⟨g1, g2⟩ ⟨g3, by omega⟩ ⟨g5, by omega⟩ I' q g e⟩, fun z => absurd rfl z⟩) (fun g5 => ⟨fun z => absurd z (by decide), fun _ => ⟨Or.inr rfl, k2 (fun z => g5 ⟨z.2.2.1, by omega⟩) _ (q.tr (T0.rf.up).q) th_up⟩⟩)
theorem z_npl0 {x y z : Int32} (h : I 31 0 0 1 = gi 0) (k : ∀ I', T0 I I' → I' 31 0 0 0 = gi 1 → Q (.inl (.int (gi 1))) I' J B) : gC E 198 [.inr (31, 0, 0), .inl (.int x), .inl (.int y), .inl (.int z)] I J B Q X :=
  e_X8_noPlace (z_nst0 h fun I' t h1 => ⟨fun _ => ⟨Or.inr rfl, k I' t h1⟩, fun h2 => absurd h2 (by decide)⟩)
theorem c_schur (h1 : -2147483648 ≤ a) (h2 : a < 2147483648) (h3 : -2147483648 ≤ b) (h4 : b < 2147483648) (h5 : -2147483648 ≤ d) (h6 : d < 2147483648) (hS : Sys o I J) : Cl E 72 [.inr (3, 0, 0), .inl (.int (gi a)), .inl (.int (gi b)), .inl (.int (gi d))] I J B (eM o fun f => if (0 ≤ a ∧ a < (ess f).length) ∧ (stE f a ≤ b ∧ b < f 0) ∧ (stE f a ≤ d ∧ d < f 0) then 0 else 2) (.inl (.int (gi (rM o fun f => cpF f (stE f a) b.toNat d.toNat)))) :=
  Cl.of hS (fun h Q X k => e_X7_schur ⟨⟨by decide, by decide⟩, z_rs0 h k⟩) fun f hv hR Q X k1 k2 => e_X7_schur ⟨⟨by decide, by decide⟩, z_rs hv hR ⟨⟨by decide, by decide⟩, z_sb h1 h2 hv hR (fun g1 g2 I' fe _ => by
    have h0 := hv.1
    obtain ⟨s1, s2, s3, s4⟩ := st_le hv g1 g2
    refine ⟨⟨by decide, by decide⟩, z_rb h3 h4 hv (hR.fe fe) s3 (fun g3 g4 => ⟨⟨by decide, by decide⟩, z_rb h5 h6 hv (hR.fe fe) s3 (fun g5 g6 => ?_) (fun g => k2 1 (if_neg (fun z => g z.2.2)) I' J fe.q JQ.rf)⟩) (fun g => k2 1 (if_neg (fun z => g z.2.1)) I' J fe.q JQ.rf)⟩
    have k1 := k1 (if_pos ⟨⟨g1, g2⟩, ⟨g3, g4⟩, ⟨g5, g6⟩⟩)
    obtain ⟨x, rfl⟩ : ∃ n : Nat, b = n := ⟨b.toNat, by omega⟩
    obtain ⟨y, rfl⟩ : ∃ n : Nat, d = n := ⟨d.toNat, by omega⟩
    refine z_cb hv (hR.fe fe) s1 fun I2 fg g => ?_
    exact z_at g (by omega) (by omega) (by omega) (by omega) (k1 I2 J (fe.q.tr fg.q) JQ.rf)) (fun g I' fe => k2 1 (if_neg (fun z => g z.1)) I' J fe.q JQ.rf)⟩⟩
theorem m_schur (h1 : -2147483648 ≤ a) (h2 : a < 2147483648) (h3 : -2147483648 ≤ b) (h4 : b < 2147483648) (h5 : -2147483648 ≤ d) (h6 : d < 2147483648) (hS : Sys o I J) : Ml E 199 [.inr (31, 0, 0), .inl (.int (gi a)), .inl (.int (gi b)), .inl (.int (gi d))] I J B (eM o fun f => if (0 ≤ a ∧ a < (ess f).length) ∧ (stE f a ≤ b ∧ b < f 0) ∧ (stE f a ≤ d ∧ d < f 0) then 0 else 2) (.inl (.int (gi (rM o fun f => cpF f (stE f a) b.toNat d.toNat)))) :=
  Ml.of hS (fun h Q X k => e_X8_schur (z_npl0 h fun I' t g => ⟨fun g2 => absurd g2 (by decide), fun _ => k I' t g _⟩)) fun f hv hM hs Q X k => e_X8_schur (z_npl1 hs h1 h2 h3 h4 h5 h6 hv hM (fun g1 g2 g3 I' q g e => ⟨fun _ => by
    have h0 := hv.1
    obtain ⟨p1, p2⟩ := z_en hv g1.1 g1.2 e
    obtain ⟨s1, s2, s3, s4⟩ := st_le hv g1.1 g1.2
    rw [p2]
    refine ⟨p1, z_cm hv (q.mrow hM) s1 s4 fun I2 fp _ gg => ?_⟩
    obtain ⟨x, rfl⟩ : ∃ n : Nat, b = n := ⟨b.toNat, by omega⟩
    obtain ⟨y, rfl⟩ : ∃ n : Nat, d = n := ⟨d.toNat, by omega⟩
    obtain ⟨q1, q2, q3⟩ := gidx (i := x) (j := y) (by omega) (by omega)
    have hg := gg x y (by omega) (by omega) (by omega)
    rw [cmx_in (by omega)] at hg
    rw [q1, q2, hg]
    exact ⟨q3, Kok k (q.tr fp.q) JQ.rf ((fp 31 0 0 0 (by decide) (by decide)).trans g) (if_pos ⟨g1, g2, g3⟩) rfl⟩, fun z => absurd rfl z⟩)
    (fun g1 I' q g => ⟨fun z => absurd z (by decide), fun _ => Kno k q JQ.rf 1 g (if_neg g1)⟩))
theorem c_displacement (h1 : -2147483648 ≤ a) (h2 : a < 2147483648) (h3 : -2147483648 ≤ b) (h4 : b < 2147483648) (h5 : -2147483648 ≤ d) (h6 : d < 2147483648) (hS : Sys o I J) : Cl E 73 [.inr (3, 0, 0), .inl (.int (gi a)), .inl (.int (gi b)), .inl (.int (gi d))] I J B (eM o fun f => if (0 ≤ a ∧ a < (ess f).length) ∧ (stE f a ≤ b ∧ b < f 0) ∧ (stE f a ≤ d ∧ d < f 0) then 0 else 2) (.inl (.int (gi (rM o fun f => dpF (f 1) (stE f a) (cpF f (stE f a)) b.toNat d.toNat)))) :=
  Cl.of hS (fun h Q X k => e_X7_displacement ⟨⟨by decide, by decide⟩, z_rs0 h k⟩) fun f hv hR Q X k1 k2 => e_X7_displacement ⟨⟨by decide, by decide⟩, z_rs hv hR ⟨⟨by decide, by decide⟩, z_sb h1 h2 hv hR (fun g1 g2 I' fe _ => by
    have h0 := hv.1
    have hp := hv.p
    obtain ⟨s1, s2, s3, s4⟩ := st_le hv g1 g2
    refine ⟨⟨by decide, by decide⟩, z_rb h3 h4 hv (hR.fe fe) s3 (fun g3 g4 => ⟨⟨by decide, by decide⟩, z_rb h5 h6 hv (hR.fe fe) s3 (fun g5 g6 => ?_) (fun g => k2 1 (if_neg (fun z => g z.2.2)) I' J fe.q JQ.rf)⟩) (fun g => k2 1 (if_neg (fun z => g z.2.1)) I' J fe.q JQ.rf)⟩
    have k1 := k1 (if_pos ⟨⟨g1, g2⟩, ⟨g3, g4⟩, ⟨g5, g6⟩⟩)
    obtain ⟨x, rfl⟩ : ∃ n : Nat, b = n := ⟨b.toNat, by omega⟩
    obtain ⟨y, rfl⟩ : ∃ n : Nat, d = n := ⟨d.toNat, by omega⟩
    refine z_cb hv (hR.fe fe) s1 fun I2 fg g => ?_
    refine z_dp (by omega) (by omega) (Nat.le_refl _) s1 (by omega) (by omega) (by omega) g (cp_rg hv) fun I3 f3 g3 => ?_
    refine z_at g3 (by omega) (by omega) (by omega) (by omega) ?_
    rw [if_pos (by omega)]
    exact k1 I3 J (fe.q.tr (fg.q.tr f3.g.q)) JQ.rf) (fun g I' fe => k2 1 (if_neg (fun z => g z.1)) I' J fe.q JQ.rf)⟩⟩
theorem m_displacement (h1 : -2147483648 ≤ a) (h2 : a < 2147483648) (h3 : -2147483648 ≤ b) (h4 : b < 2147483648) (h5 : -2147483648 ≤ d) (h6 : d < 2147483648) (hS : Sys o I J) : Ml E 200 [.inr (31, 0, 0), .inl (.int (gi a)), .inl (.int (gi b)), .inl (.int (gi d))] I J B (eM o fun f => if (0 ≤ a ∧ a < (ess f).length) ∧ (stE f a ≤ b ∧ b < f 0) ∧ (stE f a ≤ d ∧ d < f 0) then 0 else 2) (.inl (.int (gi (rM o fun f => dpF (f 1) (stE f a) (cpF f (stE f a)) b.toNat d.toNat)))) :=
  Ml.of hS (fun h Q X k => e_X8_displacement (z_npl0 h fun I' t g => ⟨fun g2 => absurd g2 (by decide), fun _ => k I' t g _⟩)) fun f hv hM hs Q X k => e_X8_displacement (z_npl1 hs h1 h2 h3 h4 h5 h6 hv hM (fun g1 g2 g3 I' q g e => ⟨fun _ => by
    have h0 := hv.1
    obtain ⟨p1, p2⟩ := z_en hv g1.1 g1.2 e
    obtain ⟨s1, s2, s3, s4⟩ := st_le hv g1.1 g1.2
    rw [p2]
    refine ⟨p1, z_ds hv (q.mrow hM) s1 s4 fun I2 fp _ gg => ?_⟩
    obtain ⟨x, rfl⟩ : ∃ n : Nat, b = n := ⟨b.toNat, by omega⟩
    obtain ⟨y, rfl⟩ : ∃ n : Nat, d = n := ⟨d.toNat, by omega⟩
    obtain ⟨q1, q2, q3⟩ := gidx7 (i := x) (j := y) (by omega) (by omega)
    rw [q1, q2, gg x y (by omega) (by omega) (by omega) (by omega)]
    exact ⟨q3, Kok k (q.tr fp.q) JQ.rf ((fp 31 0 0 0 (by decide) (by decide) (by decide) (by decide) (by decide)).trans g) (if_pos ⟨g1, g2, g3⟩) rfl⟩, fun z => absurd rfl z⟩)
    (fun g1 I' q g => ⟨fun z => absurd z (by decide), fun _ => Kno k q JQ.rf 1 g (if_neg g1)⟩))
theorem c_generators (h1 : -2147483648 ≤ a) (h2 : a < 2147483648) (hS : Sys o I J) : Cl E 74 [.inr (3, 0, 0), .inl (.int (gi a))] I J B (eM o fun f => if 0 ≤ a ∧ a < (ess f).length then 0 else 2) (.inl (.int (gi (rM o fun f => ((prs f (stE f a)).1 : Nat))))) :=
  Cl.of hS (fun h Q X k => e_X7_generators ⟨⟨by decide, by decide⟩, z_rs0 h k⟩) fun f hv hR Q X k1 k2 => e_X7_generators ⟨⟨by decide, by decide⟩, z_rs hv hR ⟨⟨by decide, by decide⟩, z_sb h1 h2 hv hR (fun g1 g2 I' fe _ => z_pb hv (hR.fe fe) (st_le hv g1 g2).1 fun I2 fq _ _ => k1 (if_pos ⟨g1, g2⟩) I2 J (fe.q.tr fq.q) JQ.rf) (fun g I' fe => k2 1 (if_neg g) I' J fe.q JQ.rf)⟩⟩
theorem m_generators (h1 : -2147483648 ≤ a) (h2 : a < 2147483648) (hS : Sys o I J) : Ml E 201 [.inr (31, 0, 0), .inl (.int (gi a))] I J B (eM o fun f => if 0 ≤ a ∧ a < (ess f).length then 0 else 2) (.inl (.int (gi (rM o fun f => ((prs f (stE f a)).1 : Nat))))) :=
  Ml.of hS (fun h Q X k => e_X8_generators (z_nst0 h fun I' t g => ⟨fun g2 => absurd g2 (by decide), fun _ => k I' t g _⟩)) fun f hv hM hs Q X k => e_X8_generators (z_nst1 hs h1 h2 hv hM
    (fun g1 g2 I' q g e => ⟨fun _ => by
      obtain ⟨p1, p2⟩ := z_en hv g1 g2 e
      obtain ⟨s1, s2, s3, s4⟩ := st_le hv g1 g2
      rw [p2]
      exact ⟨p1, z_lp hv (q.mrow hM) s1 s4 fun I2 fp _ => Kok k (q.tr fp.q) JQ.rf ((fp 31 0 0 0 (by decide) (by decide) (by decide) (by decide) (by decide)).trans g) (if_pos ⟨g1, g2⟩) rfl⟩, fun z => absurd rfl z⟩)
    (fun g1 I' q g => ⟨fun z => absurd z (by decide), fun _ => Kno k q JQ.rf 1 g (if_neg g1)⟩))
/-! one generator -/
def gnF (f : Nat → Int) (q : Nat) (x : Int32) (s i : Nat) : Int := if x = gi 0 then (prs f q).2.2.1 s i else (prs f q).2.2.2 s i
theorem c_generator {x : Int32} (h1 : -2147483648 ≤ a) (h2 : a < 2147483648) (h3 : -2147483648 ≤ b) (h4 : b < 2147483648) (h5 : -2147483648 ≤ d) (h6 : d < 2147483648) (hS : Sys o I J) : Cl E 75 [.inr (3, 0, 0), .inl (.int (gi a)), .inl (.int (gi b)), .inl (.int (gi d)), .inl (.int x)] I J B (eM o fun f => if (0 ≤ a ∧ a < (ess f).length) ∧ (stE f a ≤ d ∧ d < f 0) ∧ (0 ≤ b ∧ b < (prs f (stE f a)).1) then 0 else 2) (.inl (.int (gi (rM o fun f => gnF f (stE f a) x b.toNat d.toNat)))) :=
  Cl.of hS (fun h Q X k => e_X7_generator ⟨⟨by decide, by decide⟩, z_rs0 h k⟩) fun f hv hR Q X k1 k2 => e_X7_generator ⟨⟨by decide, by decide⟩, z_rs hv hR ⟨⟨by decide, by decide⟩, z_sb h1 h2 hv hR (fun g1 g2 I' fe _ => by
    have h0 := hv.1
    obtain ⟨s1, s2, s3, s4⟩ := st_le hv g1 g2
    have hpb := prs_b hv s1
    refine ⟨⟨by decide, by decide⟩, z_rb h5 h6 hv (hR.fe fe) s3 (fun g3 g4 => ?_) (fun g => k2 1 (if_neg (fun z => g z.2.1)) I' J fe.q JQ.rf)⟩
    rw [gi_lt h3 h4 (by decide) (by decide)]
    refine ⟨fun z => ⟨⟨by decide, by decide⟩, k2 1 (if_neg (by omega)) I' J fe.q JQ.rf⟩, fun z => z_pb hv (hR.fe fe) s1 fun I2 fq _ hP => ?_⟩
    show (gi b < gi _ → _) ∧ (¬ gi b < gi _ → _)
    rw [gi_lt h3 h4 (by omega) (by omega)]
    refine ⟨fun z2 => ?_, fun z2 => ⟨⟨by decide, by decide⟩, k2 1 (if_neg (by omega)) I2 J (fe.q.tr fq.q) JQ.rf⟩⟩
    have k1 := k1 (if_pos ⟨⟨g1, g2⟩, ⟨g3, g4⟩, ⟨by omega, z2⟩⟩) I2 J (fe.q.tr fq.q) JQ.rf
    obtain ⟨y, rfl⟩ : ∃ n : Nat, b = n := ⟨b.toNat, by omega⟩
    obtain ⟨u, rfl⟩ : ∃ n : Nat, d = n := ⟨d.toNat, by omega⟩
    obtain ⟨l1, l2⟩ := hP.2.2 y u (by omega) (by omega) (by omega)
    refine e_X5_component ?_
    rw [gi_lt (by omega) (by omega) (by decide) (by decide), gi_le (by decide) (by decide) (by omega) (by omega), gi_lt (by omega) (by omega) (by decide) (by decide), gi_lt (by omega) (by omega) (by decide) (by decide), gi_c (by omega) (by omega), gi_c (by omega) (by omega), gtn, gtn, l1, l2]
    unfold gnF at k1
    refine ⟨fun z => by omega, fun _ => ⟨fun z => by omega, fun _ => ⟨fun z => by omega, fun _ => ⟨fun _ => ⟨fun z9 => ⟨gvp (by omega) (by omega) (by decide), gvp (by omega) (by omega) (by decide), ?_⟩, fun z9 => ⟨gvp (by omega) (by omega) (by decide), gvp (by omega) (by omega) (by decide), ?_⟩⟩, fun z => by omega⟩⟩⟩⟩
    · rw [if_pos z9] at k1
      exact k1
    · rw [if_neg z9] at k1
      exact k1) (fun g I' fe => k2 1 (if_neg (fun z => g z.1)) I' J fe.q JQ.rf)⟩⟩
theorem m_generator {x : Int32} (h1 : -2147483648 ≤ a) (h2 : a < 2147483648) (h3 : -2147483648 ≤ b) (h4 : b < 2147483648) (h5 : -2147483648 ≤ d) (h6 : d < 2147483648) (hS : Sys o I J) : Ml E 202 [.inr (31, 0, 0), .inl (.int (gi a)), .inl (.int (gi b)), .inl (.int (gi d)), .inl (.int x)] I J B (eM o fun f => if (0 ≤ a ∧ a < (ess f).length) ∧ (stE f a ≤ d ∧ d < f 0) ∧ (0 ≤ b ∧ b < (prs f (stE f a)).1) then 0 else 2) (.inl (.int (gi (rM o fun f => gnF f (stE f a) x b.toNat d.toNat)))) :=
  Ml.of hS (fun h Q X k => e_X8_generator (z_nst0 h fun I' t g => ⟨fun _ => k I' t g _, fun g2 => absurd g2 (by decide)⟩)) fun f hv hM hs Q X k => e_X8_generator (z_nst1 hs h1 h2 hv hM
    (fun g1 g2 I' q g e => ⟨fun z => absurd rfl z, fun _ => by
      have h0 := hv.1
      obtain ⟨p1, p2⟩ := z_en hv g1 g2 e
      obtain ⟨s1, s2, s3, s4⟩ := st_le hv g1 g2
      have hpb := prs_b hv s1
      have hM1 := q.mrow hM
      rw [p2, hM1 0 (by decide), gi_sub]
      refine ⟨p1, gvp (by decide) (by decide) (by decide), z_inr g (by decide) h5 h6 (by omega) (by omega) (by omega) (by omega) (fun g3 g4 => ⟨fun z => absurd rfl z, fun _ => ⟨p1, ?_⟩⟩) (fun g3 => ⟨fun _ => Kno k (q.tr (T0.rf.up).q) JQ.rf 1 th_up (if_neg (fun z => g3 ⟨z.2.1.1, by omega⟩)), fun z => absurd z (by decide)⟩)⟩
      rw [p2]
      refine z_lp hv hM1 s1 s4 fun I2 fp hP => ?_
      have hth : I2 31 0 0 0 = gi 0 := (fp 31 0 0 0 (by decide) (by decide) (by decide) (by decide) (by decide)).trans g
      show gC _ _ _ _ _ _ _ _
      rw [gi_sub]
      refine z_inr hth (by decide) h3 h4 (by decide) (by decide) (by omega) (by omega) (fun g5 g6 => ⟨fun _ => ?_, fun z => absurd rfl z⟩) (fun g5 => ⟨fun z => absurd z (by decide), fun _ => Kno k (q.tr (fp.q.tr (T0.rf.up).q)) JQ.rf 1 th_up (if_neg (fun z => g5 ⟨z.2.2.1, by omega⟩))⟩)
      obtain ⟨y, rfl⟩ : ∃ n : Nat, b = n := ⟨b.toNat, by omega⟩
      obtain ⟨u, rfl⟩ : ∃ n : Nat, d = n := ⟨d.toNat, by omega⟩
      obtain ⟨l1, l2⟩ := hP.2 y u (by omega) (by omega) (by omega)
      obtain ⟨q1, q2, q3⟩ := gidx49 (i := y) (j := u) (by omega) (by omega)
      rw [q1, q2, l1, l2]
      exact ⟨fun z9 => ⟨q3, Kok k (q.tr fp.q) JQ.rf hth (if_pos ⟨⟨g1, g2⟩, ⟨g3, by omega⟩, ⟨g5, by omega⟩⟩) (congrArg gi (if_pos z9))⟩, fun z9 => ⟨q3, Kok k (q.tr fp.q) JQ.rf hth (if_pos ⟨⟨g1, g2⟩, ⟨g3, by omega⟩, ⟨g5, by omega⟩⟩) (congrArg gi (if_neg z9))⟩⟩⟩)
    (fun g1 I' q g => ⟨fun _ => Kno k q JQ.rf 1 g (if_neg (fun z => g1 z.1)), fun z => absurd z (by decide)⟩))
def mgF (f : Nat → Int) (l : List Nat) : Nat → Int
  | 0 => 0
  | k + 1 => max (mgF f l k) ((prs f (l.getD k 0)).1 : Nat)
theorem mgF_b (hv : Vf f) : ∀ k, 0 ≤ mgF f (ess f) k ∧ mgF f (ess f) k ≤ 7
  | 0 => ⟨Int.le_refl 0, by show (0 : Int) ≤ 7; decide⟩
  | k + 1 => by
    have := mgF_b hv k
    have h1 := prs_b hv (ess_g (j := k) hv)
    show 0 ≤ max _ _ ∧ max _ _ ≤ (7 : Int)
    omega
theorem c_mg_l {I : gI} (hv : Vf f) (h : ∀ I', FQ I I' → Q (.inl (.int (gi (mgF f (ess f) (ess f).length)))) I' J B) : ∀ (d k : Nat) (I' : gI), k + d = (ess f).length → FQ I I' → Rst f I' J 0 → (∀ j, j < (ess f).length → I' 30 0 0 j = gi ((ess f).getD j 0 : Nat)) → gG E 76 13 [(0, .inr (3, 0, 0)), (1, .inl (.int (gi (((ess f).length - 1 : Nat) : Int)))), (2, .inl (.int (gi (mgF f (ess f) k)))), (3, .inl (.int (gi k)))] [] I' J B c w Q X
  | 0, k, I', hk, hF, hR, he => by
    have hl := ess_l hv
    refine s_X7_mostGenerators_13 ?_
    rw [gi_lt (by omega) (by omega) (by omega) (by omega)]
    obtain rfl : k = (ess f).length := hk
    exact ⟨fun _ => h I' hF, fun z => by omega⟩
  | d + 1, k, I', hk, hF, hR, he => by
    have hl := ess_l hv
    have hb := mgF_b hv k
    have h1 := prs_b hv (ess_g (j := k) hv)
    refine s_X7_mostGenerators_13 ?_
    rw [gi_lt (by omega) (by omega) (by omega) (by omega), gi_c (by omega) (by omega), gtn, he _ (by omega)]
    refine ⟨fun z => by omega, fun _ => ⟨gvp (by omega) (by omega) (by decide), z_pb hv hR (ess_g hv) fun I2 fq e30 _ => ?_⟩⟩
    show gC _ _ _ _ _ _ _ _
    refine z_max (by omega) (by omega) (by omega) (by omega) ?_
    show gG _ _ _ _ _ _ _ _ _ _ _ _
    rw [gi_add]
    exact c_mg_l hv h d (k + 1) I2 (by omega) (hF.tr fq) (QF.rst fq.q JQ.rf hR (by decide)) fun j hj => (e30 j).trans (he j hj)
theorem c_mostGenerators (hS : Sys o I J) : Cl E 76 [.inr (3, 0, 0)] I J B (eM o fun _ => 0) (.inl (.int (gi (rM o fun f => mgF f (ess f) (ess f).length)))) :=
  Cl.of hS (fun h Q X k => e_X7_mostGenerators ⟨⟨by decide, by decide⟩, z_rs0 h k⟩) fun f hv hR Q X k1 k2 => e_X7_mostGenerators ⟨⟨by decide, by decide⟩, z_rs hv hR (z_fs hv hR fun I' fe e => c_mg_l (I := I') hv (fun I2 fq => k1 rfl I2 J (fe.q.tr fq.q) JQ.rf) (ess f).length 0 I' (by omega) FQ.rf (hR.fe fe) e)⟩
theorem m_mg_l {I : gI} (hv : Vf f) (h : ∀ I', Fpd I I' → Q (.inl (.int (gi (mgF f (ess f) (ess f).length)))) I' J B) : ∀ (d k : Nat) (I' : gI), k + d = (ess f).length → Fpd I I' → Mrow f I' → I' 31 0 0 24 = gi ((ess f).length : Nat) → (∀ j, j < (ess f).length → I' 40 0 0 j = gi ((ess f).getD j 0 : Nat)) → gG E 203 17 [(0, .inr (31, 0, 0)), (1, .inl (.int (gi (mgF f (ess f) k)))), (2, .inl (.int (gi k)))] [] I' J B c w Q X
  | 0, k, I', hk, hF, hM, e1, he => by
    have hl := ess_l hv
    refine s_X8_mostGenerators_17 ?_
    rw [e1, gi_le (by omega) (by omega) (by omega) (by omega)]
    obtain rfl : k = (ess f).length := hk
    exact ⟨fun _ => h I' hF, fun z => by omega⟩
  | d + 1, k, I', hk, hF, hM, e1, he => by
    have hl := ess_l hv
    have hb := mgF_b hv k
    have h1 := prs_b hv (ess_g (j := k) hv)
    refine s_X8_mostGenerators_17 ?_
    rw [e1, gi_le (by omega) (by omega) (by omega) (by omega), gi_c (by omega) (by omega), gtn, he _ (by omega)]
    refine ⟨fun z => by omega, fun _ => ⟨gvp (by omega) (by omega) (by decide), z_lp hv hM (ess_g hv) (ess_det hv (getD_mem (by omega))) fun I2 fp _ => ?_⟩⟩
    show gC _ _ _ _ _ _ _ _
    refine z_max (by omega) (by omega) (by omega) (by omega) ?_
    show gG _ _ _ _ _ _ _ _ _ _ _ _
    rw [gi_add]
    exact m_mg_l hv h d (k + 1) I2 (by omega) (hF.tr fp) (fp.q.mrow hM) ((fp 31 0 0 24 (by decide) (by decide) (by decide) (by decide) (by decide)).trans e1) fun j hj => (fp 40 0 0 j (by decide) (by decide) (by decide) (by decide) (fun h => absurd h.1 (by decide))).trans (he j hj)
theorem m_mostGenerators (hS : Sys o I J) : Ml E 203 [.inr (31, 0, 0)] I J B (eM o fun _ => 0) (.inl (.int (gi (rM o fun f => mgF f (ess f) (ess f).length)))) :=
  Ml.of hS (fun h Q X k => e_X8_mostGenerators (z_ns0 h fun I' t g => ⟨fun g2 => absurd g2 (by decide), fun _ => k I' t g _⟩)) fun f hv hM hs Q X k => e_X8_mostGenerators (z_ns1 hs fun I' t g => ⟨fun _ => z_le hv (t.mrow hM) fun I2 fg e1 e => m_mg_l (I := I2) hv (fun I3 fp => Kok k (t.q.tr (fg.q.tr fp.q)) JQ.rf ((fp 31 0 0 0 (by decide) (by decide) (by decide) (by decide) (by decide)).trans ((fg 31 0 0 0 (by decide) (by decide) (by omega)).trans g)) rfl rfl) (ess f).length 0 I2 (by omega) Fpd.rf (fg.q.mrow (t.mrow hM)) e1 e, fun z => absurd rfl z⟩)
end YH
