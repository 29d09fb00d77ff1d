/-! ===== the law's cases: what never fails; undo, save, restore ===== -/
section YN
variable {E : gEn} {Q : gQt} {X : gXt} {I : gI} {J : gJ} {B : gB} {y5 : Int32} {cc w e : Nat} {f : Nat → Int} {c nx : Nat} {h : Nat → Nat → Int} {a b d : Int} {r x : Int32}
theorem gi01 : ¬ (gi 1 : Int32) = gi 0 := by decide
theorem Rl.t (hR : Rl I J B) : Rl (gUI I 31 0 0 0 (gi 0)) J B := hR.q T0.rf.up.q (fun _ _ _ _ _ => rfl)
theorem k_parseError (hR : Rl I J B) (k : Kx E Q X y5 cc w) : gG E 313 421 (lls y5) [] I J B cc w Q X := by
  obtain ⟨nb, b1, b2, b3, b4, b5, b6⟩ : Buf I := by obtain ⟨o, c2, nx, hh, hS, hC, hD, hz, hB, hF, hT⟩ := hR.1; exact hF
  exact s_L_law_421 (e_X7_parseError (e_X8_parseError (And.intro (fun _ => k _ _ _ hR.t _ _ (by omega) (by omega)) (fun z => absurd (b5.symm) z))))
theorem k_errorPosition (hR : Rl I J B) (k : Kx E Q X y5 cc w) : gG E 313 434 (lls y5) [] I J B cc w Q X := by
  obtain ⟨nb, b1, b2, b3, b4, b5, b6⟩ : Buf I := by obtain ⟨o, c2, nx, hh, hS, hC, hD, hz, hB, hF, hT⟩ := hR.1; exact hF
  refine s_L_law_434 (e_X7_errorPosition ⟨fun z => e_X8_errorPosition (And.intro (fun _ => k _ _ _ hR.t _ _ (by omega) (by omega)) (fun z2 => absurd ?_ z2)), fun z => e_X8_errorPosition (And.intro (fun _ => k _ _ _ hR.t _ _ (by omega) (by omega)) (fun z2 => absurd ?_ z2))⟩)
  · rw [b6, if_neg z]
  · rw [b6, if_pos z]
theorem k_buffered (hR : Rl I J B) (k : Kx E Q X y5 cc w) : gG E 313 447 (lls y5) [] I J B cc w Q X := by
  obtain ⟨nb, b1, b2, b3, b4, b5, b6⟩ : Buf I := by obtain ⟨o, c2, nx, hh, hS, hC, hD, hz, hB, hF, hT⟩ := hR.1; exact hF
  exact s_L_law_447 (e_X7_buffered (e_X8_buffered (And.intro (fun _ => k _ _ _ hR.t _ _ (by omega) (by omega)) (fun z => absurd (b2.trans b3.symm) z))))
theorem k_size (hR : Rl I J B) (k : Kx E Q X y5 cc w) : gG E 313 460 (lls y5) [] I J B cc w Q X := by
  obtain ⟨o, c2, nx, hh, hS, hC, hD, hz, hB, hF, hT⟩ := id hR.1
  refine s_L_law_460 (e_X7_size (e_X8_size ⟨gvp (by decide) (by decide) (by decide), e_X8_its ⟨fun z => And.intro (fun _ => k _ _ _ hR.t _ _ (by omega) (by omega)) (fun z2 => absurd ?_ z2), fun z => And.intro (fun _ => k _ _ _ hR.t _ _ (by omega) (by omega)) (fun z2 => absurd ?_ z2)⟩⟩))
  · cases o with
    | none => exact hS.2.1
    | some f => exact absurd (hS.1.symm.trans z) gi01
  · cases o with
    | none => exact absurd hS.1 z
    | some f => exact hS.2.2.1.1.1.trans (hS.2.2.2 0 (by decide)).symm
theorem k_prime (hR : Rl I J B) (k : Kx E Q X y5 cc w) : gG E 313 473 (lls y5) [] I J B cc w Q X := by
  obtain ⟨o, c2, nx, hh, hS, hC, hD, hz, hB, hF, hT⟩ := id hR.1
  refine s_L_law_473 (e_X7_prime (e_X8_prime ⟨gvp (by decide) (by decide) (by decide), e_X8_its ⟨fun z => And.intro (fun _ => k _ _ _ hR.t _ _ (by omega) (by omega)) (fun z2 => absurd ?_ z2), fun z => And.intro (fun _ => k _ _ _ hR.t _ _ (by omega) (by omega)) (fun z2 => absurd ?_ z2)⟩⟩))
  · cases o with
    | none => exact hS.2.2.1
    | some f => exact absurd (hS.1.symm.trans z) gi01
  · cases o with
    | none => exact absurd hS.1 z
    | some f => exact hS.2.2.1.1.2.1.trans (hS.2.2.2 1 (by decide)).symm
theorem k_entries (hR : Rl I J B) (k : Kx E Q X y5 cc w) : gG E 313 2621 (lls y5) [] I J B cc w Q X := by
  obtain ⟨o, c2, nx, hh, hS, hC, hD, hz, hB, hF, hT⟩ := id hR.1
  refine s_L_law_2621 (e_X7_entries (e_X8_entries ⟨gvp (by decide) (by decide) (by decide), e_X8_its ⟨fun z => And.intro (fun _ => k _ _ _ hR.t _ _ (by omega) (by omega)) (fun z2 => absurd ?_ z2), fun z => And.intro (fun _ => k _ _ _ hR.t _ _ (by omega) (by omega)) (fun z2 => absurd ?_ z2)⟩⟩))
  · cases o with
    | none => exact hS.2.2.2.1
    | some f => exact absurd (hS.1.symm.trans z) gi01
  · cases o with
    | none => exact absurd hS.1 z
    | some f => exact hS.2.2.1.1.2.2.2.2.2.1.trans (hS.2.2.2 317 (by decide)).symm
theorem k_undoable (hR : Rl I J B) (k : Kx E Q X y5 cc w) : gG E 313 3230 (lls y5) [] I J B cc w Q X := by
  obtain ⟨o, c2, nx, hh, hS, hC, hD, hz, hB, hF, hT⟩ := id hR.1
  refine s_L_law_3230 (e_X7_undoable (e_X8_undoable (e_X8_its ⟨fun z => And.intro (fun _ => k _ _ _ hR.t _ _ (by omega) (by omega)) (fun z2 => absurd ?_ z2), fun z => And.intro (fun _ => k _ _ _ hR.t _ _ (by omega) (by omega)) (fun z2 => absurd ?_ z2)⟩)))
  · cases o with
    | none => exact (hC.1.trans (by rw [hz rfl]; rfl))
    | some f => exact absurd (hS.1.symm.trans z) gi01
  · cases o with
    | none => exact absurd hS.1 z
    | some f => exact hC.1.trans hD.1.symm
/-! undo -/
theorem Rst.to46 {n : Nat} {v : Int64} (hs : Rst f I J n) : Rst f I (gUJ J 46 0 0 v) n := hs.to (fun _ _ _ _ => rfl) (fun a d z => if_neg (fun z2 => by omega))
theorem Clh.to46 {v : Int64} (hs : Clh I J B c nx h) : Clh I (gUJ J 46 0 0 v) B c nx h := hs.to (fun _ => rfl) (fun _ _ _ _ _ _ _ => rfl) (fun a b d z _ _ => if_neg (fun z2 => by omega))
theorem wu_undo (hC : Clh I J B c nx h) (k1 : c ≠ 0 → ∀ I' J', CF I I' → CJ J J' → Rst (h (c - 1)) I' J' 0 → Vf (h (c - 1)) → Clh I' J' B (c - 1) ((nx + 7) % 8) h → J' 46 0 0 = Int32.toInt64 (gi ((c - 1 : Nat) : Int)) → Q (.inl (.int (gi 0))) I' J' B) (k2 : c = 0 → Q (.inl (.int (gi 1))) I J B) : gC E 301 [.inr (3, 0, 0), .inr (46, 0, 0)] I J B Q X :=
  e_L_undo ⟨⟨by decide, by decide⟩, c_undo hC (fun hc I' J' cf cj r v cl => And.intro vp0 (k1 hc I' _ cf cj.up46 r.to46 v cl.to46 (if_pos ⟨rfl, rfl, rfl⟩))) k2⟩
theorem k_undo (hR : Rl I J B) (hc : cc + 12 ≤ 601024) (hw : w + 172 ≤ 7293034) (k : Kx E Q X y5 cc w) : gG E 313 3186 (lls y5) [] I J B cc w Q X := by
  obtain ⟨o, c2, nx, hh, hS, hC, hD, hz, hB, hF, hT⟩ := id hR.1
  refine s_L_law_3186 ⟨⟨by omega, by omega⟩, ?_⟩
  refine wu_undo hC (fun hc0 I1 J1 cf cj r v cl v1 => ?_) (fun hc0 => ?_)
  · cases o with
    | none => exact absurd (hz rfl) hc0
    | some f =>
      obtain ⟨hs, hv, hRs, hM⟩ := hS
      refine m_undo hC.2.2.1 (hD.to hC.2.2.1 (cf.kq 31 0 0 4 (by omega)) (fun i _ _ => cf.kq 33 0 0 i (by omega))) (fun _ I2 mf g2 hM2 hD2 => ?_) (fun z => absurd z hc0)
      exact lt_ok (e := 0) (r := Int32.toInt64 (gi _)) (by decide) g2 (fun _ => v1) (k _ _ _ (Rl.chg hF hT cf cj (fun _ z => z) hB v r cl mf FX.rf hs hM2 hD2) _ _ (by omega) (by omega))
  · refine m_undo hC.2.2.1 hD (fun z => absurd hc0 z) (fun _ I2 q2 g2 r2 => ?_)
    exact lt_ok (e := 1) (r := Int32.toInt64 r2) (by decide) g2 (fun z => absurd z (by decide)) (k _ _ _ (hR.q q2 (fun _ _ _ _ _ => rfl)) _ _ (by omega) (by omega))
/-! save -/
def S6 (s : Nat) (J J' : gJ) : Prop := ∀ x y u, (x = 6 ∨ x = 10) → y ≠ 11 + s → J' x y u = J x y u
theorem SJ.s6 {s : Nat} {J' : gJ} {v : Int64} (hs : SJ s J J') : S6 s J (gUJ J' 46 0 0 v) := fun x y u h1 h2 => (if_neg (fun z2 => by omega)).trans (hs x y u (fun z => h2 z.2))
theorem wu_save (h1 : -2147483648 ≤ a) (h2 : a < 2147483648) (hv : Vf f) (hR : Rst f I J 0) (hB : Bk B) (k1 : ∀ s : Nat, s < 2 → a = s → ∀ I' J' B', SC s I I' → S6 s J J' → (∀ m, B m = true → B' m = true) → Bk B' → B' (11 + s + 17) = true → Rst f I' J' (11 + s) → I' 16 0 0 s = gi 1 → J' 46 0 0 = Int32.toInt64 (gi (f 0)) → Q (.inl (.int (gi 0))) I' J' B') (k2 : ¬ (0 ≤ a ∧ a < 2) → Q (.inl (.int (gi 2))) I J B) : gC E 302 [.inr (3, 0, 0), .inl (.int (gi a)), .inr (46, 0, 0)] I J B Q X :=
  e_L_save ⟨⟨by decide, by decide⟩, c_save h1 h2 hv hR hB (fun s h3 h4 I' J' B' sc sj mo bk bt r e1 => And.intro vp0 (k1 s h3 h4 I' _ B' sc sj.s6 mo bk bt r.to46 e1 (if_pos ⟨rfl, rfl, rfl⟩))) k2⟩
theorem nc_save (hz : I 6 0 0 0 = gi 0) : Cl E 108 [.inr (3, 0, 0), .inl (.int (gi a))] I J B 1 (.inl (.int (gi 0))) :=
  fun Q X k1 k2 => e_X7_save ⟨⟨by decide, by decide⟩, z_rs0 hz (k2 0 rfl I J QF.rf JQ.rf)⟩
theorem nm_save (hz : I 31 0 0 1 = gi 0) : Ml E 252 [.inr (31, 0, 0), .inl (.int (gi a))] I J B 1 (.inl (.int (gi 0))) :=
  fun Q X k => e_X8_save (z_ns0 hz fun I1 t g => And.intro (fun _ => k I1 J t.q JQ.rf g _ (fun z => absurd z (by decide))) (fun z => absurd z (by decide)))
theorem wn_save (hh : Cl E 108 [.inr (3, 0, 0), .inl (.int (gi a))] I J B 1 (.inl (.int r))) : Cw E 302 [.inr (3, 0, 0), .inl (.int (gi a)), .inr (46, 0, 0)] I J B 1 46 (Int32.toInt64 r) :=
  fun Q X k => e_L_save ⟨⟨by decide, by decide⟩, hh.w 1 (by decide) (by decide) (fun _ _ _ h => h) (fun z => absurd z (by decide)) (fun z => absurd z (by decide)) k⟩
theorem Rl.sav {s : Nat} {I1 I2 : gI} {J1 : gJ} {B1 : gB} (hR : Rl I J B) (h3 : s < 2) (hs : I 31 0 0 1 = gi 1) (hv : Vf f) (hRs : Rst f I J 0) (hM : Mrow f I) (hC : Clh I J B c nx h) (hD : Mdh I c h) (hF : Buf I) (hT : Slt I J B) (sc : SC s I I1) (sj : S6 s J J1) (mo : ∀ m, B m = true → B1 m = true) (bk : Bk B1) (bt : B1 (11 + s + 17) = true) (r1 : Rst f I1 J1 (11 + s)) (e1 : I1 16 0 0 s = gi 1) (sm : SM s I1 I2) (hS : Mst f I2 (9 + s)) (e2 : I2 34 0 0 s = gi 1) : Rl I2 J1 B1 := by
  have k1 : ∀ x y z u, ¬ (6 ≤ x ∧ x ≤ 12 ∧ y = 11 + s) → ¬ (x = 16 ∧ u = s) → ¬ (x = 31 ∧ u = 0) → ¬ (x = 33 ∧ 408 * (9 + s) ≤ u ∧ u < 408 * (9 + s) + 408) → ¬ (x = 34 ∧ u = s) → I2 x y z u = I x y z u := fun x y z u z1 z2 z3 z4 z5 => (sm x y z u z3 z4 z5).trans (sc x y z u z1 z2)
  have hs2 : I2 31 0 0 1 = gi 1 := (k1 31 0 0 1 (by omega) (by omega) (by omega) (by omega) (by omega)).trans hs
  have hc := hC.2.2.1
  refine ⟨⟨some f, c, nx, h, ⟨hs2, hv, hRs.to (fun a d z1 z2 => k1 a 0 0 d (by omega) (by omega) (by omega) (by omega) (by omega)) (fun a d z => sj a 0 d z (by omega)), hM.to fun q hq => k1 32 0 0 q (by omega) (by omega) (by omega) (by omega) (by omega)⟩, ?_, hD.to hc (k1 31 0 0 4 (by omega) (by omega) (by omega) (by omega) (by omega)) (fun i z1 z2 => k1 33 0 0 i (by omega) (by omega) (by omega) (by omega) (by omega)), (fun z => by cases z), bk, hF.to fun a b c d z => k1 a b c d (by omega) (by omega) (by omega) (by omega) (by omega), fun t ht => ?_⟩, fun z => absurd (hs2.symm.trans z) gi01⟩
  · obtain ⟨c1, c2, c3, c4, c5⟩ := hC
    have hcl : Clh I2 J1 B c nx h := Clh.to ⟨c1, c2, c3, c4, c5⟩ (fun d => k1 13 0 0 d (by omega) (by omega) (by omega) (by omega) (by omega)) (fun a b d z1 z2 z3 z4 => k1 a b 0 d (by omega) (by omega) (by omega) (by omega) (by omega)) (fun a b d z1 z2 z3 => sj a b d z1 (by omega))
    obtain ⟨d1, d2, d3, d4, d5⟩ := hcl
    exact ⟨d1, d2, d3, d4, fun j hj => ⟨(d5 j hj).1, (d5 j hj).2.1, mo _ (d5 j hj).2.2⟩⟩
  · by_cases ts : t = s
    · subst ts
      exact Or.inr ⟨(sm 16 0 0 t (by omega) (by omega) (by omega)).trans e1, e2, bt, f, hv, r1.to (fun a d z1 z2 => sm a (11 + t) 0 d (by omega) (by omega) (by omega)) (fun _ _ _ => rfl), hS⟩
    · rcases hT t ht with ⟨g1, g2⟩ | ⟨g1, g2, g3, g, g4, g5, g6⟩
      · exact Or.inl ⟨(k1 16 0 0 t (by omega) (by omega) (by omega) (by omega) (by omega)).trans g1, (k1 34 0 0 t (by omega) (by omega) (by omega) (by omega) (by omega)).trans g2⟩
      · exact Or.inr ⟨(k1 16 0 0 t (by omega) (by omega) (by omega) (by omega) (by omega)).trans g1, (k1 34 0 0 t (by omega) (by omega) (by omega) (by omega) (by omega)).trans g2, mo _ g3, g, g4, g5.to (fun a d z1 z2 => k1 a (11 + t) 0 d (by omega) (by omega) (by omega) (by omega) (by omega)) (fun a d z => sj a (11 + t) d z (by omega)), fun q hq => (k1 33 0 0 _ (by omega) (by omega) (by omega) (by omega) (by omega)).trans (g6 q hq)⟩
theorem k_save (hR : Rl I J B) (y : Ly E y5) (hc : cc + 12 ≤ 601024) (hw : w + 172 ≤ 7293034) (k : Kx E Q X y5 cc w) : gG E 313 3243 (lls y5) [] I J B cc w Q X := by
  obtain ⟨y1, y2, y3, y4, y6⟩ := y
  obtain ⟨a, h1, h2, e1⟩ := gi_ex (gXs E (Int32.toNatClampNeg (y5 + gi 1)))
  obtain ⟨o, c2, nx, hh, hS, hC, hD, hz, hB, hF, hT⟩ := id hR.1
  refine s_L_law_3243 ?_
  rw [e1]
  refine ⟨y1, ⟨by omega, by omega⟩, ?_⟩
  cases o with
  | none =>
    refine wn_save (nc_save hS.2.1) _ _ fun I1 J1 q1 j1 v1 => ?_
    refine And.intro y1 ?_
    refine nm_save (hS.j6 q1 j1).1 _ _ fun I2 J2 q2 j2 g2 r2 v2 => ?_
    exact lt_ok (e := 1) (r := Int32.toInt64 r2) (by decide) g2 (fun z => absurd z (by decide)) (k _ _ _ (hR.q (q1.tr q2) (j1.tr j2.j6)) _ _ (by omega) (by omega))
  | some f =>
    obtain ⟨hs, hv, hRs, hM⟩ := hS
    refine wu_save h1 h2 hv hRs hB (fun s h3 h4 I1 J1 B1 sc sj mo bk bt r1 t1 v1 => ?_) (fun no => ?_)
    · refine And.intro y1 ?_
      refine m_save h1 h2 hv (hM.to fun q hq => sc 32 0 0 q (by omega) (by omega)) ((sc 31 0 0 1 (by omega) (by omega)).trans hs) (fun s' h5 h6 I2 sm g2 hS2 t2 => ?_) (fun z => absurd ⟨by omega, by omega⟩ z)
      have ss : s' = s := by omega
      subst ss
      exact lt_ok (e := 0) (r := Int32.toInt64 (gi _)) (by decide) g2 (fun _ => v1) (k _ _ _ (hR.sav h3 hs hv hRs hM hC hD hF hT sc sj mo bk bt r1 t1 sm hS2 t2) _ _ (by omega) (by omega))
    · refine And.intro y1 ?_
      refine m_save h1 h2 hv hM hs (fun s h3 h4 => absurd ⟨by omega, by omega⟩ no) (fun _ I2 q2 g2 r2 => ?_)
      exact lt_ok (e := 2) (r := Int32.toInt64 r2) (by decide) g2 (fun z => absurd z (by decide)) (k _ _ _ (hR.q q2 (fun _ _ _ _ _ => rfl)) _ _ (by omega) (by omega))
/-! restore -/
theorem wu_restore (h1 : -2147483648 ≤ a) (h2 : a < 2147483648) (hC : Clh I J B c nx h) (hT : Slt I J B) (k1 : ∀ s : Nat, s < 2 → a = s → ∀ g, I 34 0 0 s = gi 1 → Vf g → Mst g I (9 + s) → ∀ I' J', CF I I' → CJ J J' → Rst g I' J' 0 → Clh I' J' B 0 nx h → J' 46 0 0 = Int32.toInt64 (gi (g 0)) → Q (.inl (.int (gi 0))) I' J' B) (k2 : ¬ (0 ≤ a ∧ a < 2) → Q (.inl (.int (gi 1))) I J B) (k3 : ∀ s : Nat, s < 2 → a = s → I 34 0 0 s = gi 0 → Q (.inl (.int (gi 2))) I J B) : gC E 303 [.inr (3, 0, 0), .inl (.int (gi a)), .inr (46, 0, 0)] I J B Q X :=
  e_L_restore ⟨⟨by decide, by decide⟩, c_restore h1 h2 hC hT (fun s h3 h4 g e1 v ms I' J' cf cj r cl => And.intro vp0 (k1 s h3 h4 g e1 v ms I' _ cf cj.up46 r.to46 cl.to46 (if_pos ⟨rfl, rfl, rfl⟩))) k2 k3⟩
theorem k_restore (hR : Rl I J B) (y : Ly E y5) (hc : cc + 12 ≤ 601024) (hw : w + 172 ≤ 7293034) (k : Kx E Q X y5 cc w) : gG E 313 3299 (lls y5) [] I J B cc w Q X := by
  obtain ⟨y1, y2, y3, y4, y6⟩ := y
  obtain ⟨a, h1, h2, e1⟩ := gi_ex (gXs E (Int32.toNatClampNeg (y5 + gi 1)))
  obtain ⟨o, c2, nx, hh, hS, hC, hD, hz, hB, hF, hT⟩ := id hR.1
  have hg : ∀ s : Nat, s < 2 → (I 34 0 0 s = gi 0 ∨ (I 34 0 0 s = gi 1 ∧ ∃ g, Mst g I (9 + s))) := fun s hs => by
    rcases hT s hs with ⟨_, z⟩ | ⟨_, z, _, g, _, _, m⟩
    · exact Or.inl z
    · exact Or.inr ⟨z, g, m⟩
  refine s_L_law_3299 ?_
  rw [e1]
  refine ⟨y1, ⟨by omega, by omega⟩, ?_⟩
  refine wu_restore h1 h2 hC hT (fun s h3 h4 g t1 v ms I1 J1 cf cj r cl v1 => ?_) (fun no => ?_) (fun s h3 h4 t1 => ?_)
  · have hs : I 31 0 0 1 = gi 1 := by
      cases o with
      | none => exact absurd (t1.symm.trans (hR.2 hS.1 s h3)) gi01
      | some f => exact hS.1
    refine And.intro y1 ?_
    refine m_restore h1 h2 (fun s' h5 h6 t2 g' ms' I2 mf g2 hM2 hD2 => ?_) (fun s hs => by
      rcases hg s hs with z | ⟨z, g, m⟩
      · exact Or.inl ((cf 34 0 0 s (by omega)).trans z)
      · exact Or.inr ⟨(cf 34 0 0 s (by omega)).trans z, g, fun q hq => (cf 33 0 0 _ (by omega)).trans (m q hq)⟩) (fun z => absurd ⟨by omega, by omega⟩ z) (fun s' h5 h6 t2 => ?_)
    · have ss : s' = s := by omega
      subst ss
      have gg : ∀ q, q < 408 → gi (g' q) = gi (g q) := fun q hq => (ms' q hq).symm.trans ((cf 33 0 0 _ (by omega)).trans (ms q hq))
      rw [gg 0 (by decide)]
      exact lt_ok (e := 0) (r := Int32.toInt64 (gi _)) (by decide) g2 (fun _ => v1) (k _ _ _ (Rl.chg hF hT cf cj (fun _ z => z) hB v r cl mf FX.rf hs (fun q hq => (hM2 q hq).trans (gg q hq)) ⟨hD2, fun j hj => absurd hj (Nat.not_lt_zero j)⟩) _ _ (by omega) (by omega))
    · have ss : s' = s := by omega
      subst ss
      exact absurd (t1.symm.trans ((cf 34 0 0 s' (by omega)).symm.trans t2)) gi01
  · refine And.intro y1 ?_
    refine m_restore h1 h2 (fun s h3 h4 => absurd ⟨by omega, by omega⟩ no) hg (fun _ I2 q2 g2 r2 => ?_) (fun s h3 h4 => absurd ⟨by omega, by omega⟩ no)
    exact lt_ok (e := 1) (r := Int32.toInt64 r2) (by decide) g2 (fun z => absurd z (by decide)) (k _ _ _ (hR.q q2 (fun _ _ _ _ _ => rfl)) _ _ (by omega) (by omega))
  · refine And.intro y1 ?_
    refine m_restore h1 h2 (fun s' h5 h6 t2 => ?_) hg (fun z => absurd ⟨by omega, by omega⟩ z) (fun s' h5 h6 t2 I2 q2 g2 r2 => ?_)
    · have ss : s' = s := by omega
      subst ss
      exact absurd (t2.symm.trans t1) gi01
    · exact lt_ok (e := 2) (r := Int32.toInt64 r2) (by decide) g2 (fun z => absurd z (by decide)) (k _ _ _ (hR.q q2 (fun _ _ _ _ _ => rfl)) _ _ (by omega) (by omega))
end YN
