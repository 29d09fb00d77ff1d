/-! ===== load ===== -/
def FL2 (I I' : gI) : Prop := ∀ a b c d, a ≠ 4 → ¬ (6 ≤ a ∧ a ≤ 12 ∧ (b = 0 ∨ b = 2)) → ¬ (a = 13 ∧ d = 2) → a ≠ 16 → I' a b c d = I a b c d
def FJ2 (J J' : gJ) : Prop := ∀ a b d, (a = 6 ∨ a = 10) → ¬ (b = 0 ∨ b = 2) → J' a b d = J a b d
/-- what an attempt that fails changes -/
def FBe (I I' : gI) : Prop := ∀ a b c d, a ≠ 4 → ¬ (6 ≤ a ∧ a ≤ 12 ∧ b = 2) → ¬ (a = 31 ∧ (d = 0 ∨ (7 ≤ d ∧ d ≤ 16) ∨ d = 19)) → a ≠ 36 → a ≠ 37 → I' a b c d = I a b c d
section YF
variable {E : gEn} {Q : gQt} {X : gXt} {I : gI} {J : gJ} {B : gB} {y5 : Int32} {cc w n m nb : Nat} {t : Nat → Int} {a : Int} {f : Nat → Int}
theorem and255 (x : Int32) : ∃ j : Nat, j < 256 ∧ x &&& gi 255 = gi (j : Int) := by
  obtain ⟨j, h1, h2⟩ := pk_andE x (m := gi 255) 8 (by decide)
  exact ⟨j, h1, h2⟩
theorem c_load (h1 : -2147483648 ≤ a) (h2 : a < 2147483648) (hnb : nb ≤ 700) (e1 : I 4 0 0 1 = gi nb) (ht : ∀ k, k < nb → (0 ≤ t k ∧ t k < 256) ∧ I 5 0 0 k &&& gi 255 = gi (t k)) (k0 : ¬ (0 ≤ a ∧ a ≤ nb) → X 1 I J B) (kE : ∀ m : Nat, a = m → m ≤ nb → ∀ er pos, parseF t m = .inl (er, pos) → ∀ I' J', FPz I I' → FJ 2 J J' → I' 4 0 0 3 = gi er → I' 4 0 0 4 = gi pos → I' 4 0 0 1 = gi 0 → X 2 I' J' B) (kO : ∀ m : Nat, a = m → m ≤ nb → ∀ f, parseF t m = .inr f → ∀ I' J', FL2 I I' → FJ2 J J' → Rst (bgF f) I' J' 0 → I' 13 0 0 2 = gi 0 → I' 16 0 0 0 = gi 0 → I' 16 0 0 1 = gi 0 → I' 4 0 0 3 = gi 0 → I' 4 0 0 1 = gi 0 → Q (.inl (.int (gi (bgF f 0)))) I' J' B) : gC E 53 [.inr (3, 0, 0), .inl (.int (gi a))] I J B Q X := by
  refine e_X7_load ⟨fun z => ⟨⟨by decide, by decide⟩, k0 ?_⟩, fun z => ⟨fun z2 => ?_, fun z2 => ⟨⟨by decide, by decide⟩, k0 ?_⟩⟩⟩
  · rw [gi_lt h1 h2 (by omega) (by omega)] at z; omega
  · rw [gi_lt h1 h2 (by omega) (by omega)] at z
    rw [e1, gi_le h1 h2 (by omega) (by omega)] at z2
    obtain ⟨m, rfl⟩ : ∃ m : Nat, a = m := ⟨a.toNat, by omega⟩
    refine z_parse (t := t) hnb (by omega) e1 ht (fun f hf I1 J1 fp fj hRs c3 c1 => And.intro (fun _ => ?_) (fun y => absurd y g10)) (fun er pos hf I1 J1 fp fj c3 c4 c1 => And.intro (fun y => absurd rfl y) (fun _ => ⟨⟨by decide, by decide⟩, kE m rfl (by omega) er pos hf I1 J1 fp fj c3 c4 c1⟩))
    have hv := (parseF_ok hf).1
    refine z_become (by decide) fun I2 J2 fs fj2 hb => e_X2_forget ?_
    have hR2 := hb _ hv hRs
    have step : ∀ {i : Nat} {I3 : gI}, i < 2 → gG E 53 69 [(0, .inr (3, 0, 0)), (2, .inl (.int (gi ((i + 1 : Nat) : Int))))] [] (gUI I3 16 0 0 i (gi 0)) J2 B 0 0 Q X → gG E 53 69 [(0, .inr (3, 0, 0)), (2, .inl (.int (gi ((i : Nat) : Int))))] [] I3 J2 B 0 0 Q X := fun {i I3} hi g => by
      refine s_X7_load_69 ⟨fun z => by rw [gi_le (by omega) (by omega) (by omega) (by omega)] at z; omega, fun _ => ⟨gvp (by omega) (by omega) (by decide), ?_⟩⟩
      rw [nar0, gi_c (by omega) (by omega), gtn, show gi (i : Int) + gi 1 = gi ((i + 1 : Nat) : Int) from gi_add _ _]
      exact g
    refine step (i := 0) (by decide) (step (i := 1) (by decide) (s_X7_load_69 ⟨fun _ => ?_, fun z => absurd (by decide) z⟩))
    have hR3 : Rst (bgF f) (gUI (gUI (gUI I2 13 0 0 2 (gi 0)) 16 0 0 0 (gi 0)) 16 0 0 1 (gi 0)) J2 0 := hR2.to (fun a d z1 z2 => (if_neg (by omega)).trans ((if_neg (by omega)).trans (if_neg (by omega)))) (fun _ _ _ => rfl)
    rw [hR3.1.1]
    refine kO m rfl (by omega) f hf _ J2 (fun a b c d z1 z2 z3 z4 => ?_) (fun a b d z z2 => (fj2 a b d (by omega)).trans (fj a b d (by omega))) hR3 ?_ ?_ ?_ ?_ ?_
    · rw [gUI_at, if_neg (by omega), gUI_at, if_neg (by omega), gUI_at, if_neg (by omega), fs a b c d (by omega), fp a b c d (by omega) (by omega)]
    · rw [gUI_at, if_neg (by omega), gUI_at, if_neg (by omega), gu_s]
    · rw [gu_o (by decide), gu_s]
    · rw [gu_s]
    · rw [gUI_at, if_neg (by omega), gUI_at, if_neg (by omega), gUI_at, if_neg (by omega), fs 4 0 0 3 (by omega)]; exact c3
    · rw [gUI_at, if_neg (by omega), gUI_at, if_neg (by omega), gUI_at, if_neg (by omega), fs 4 0 0 1 (by omega)]; exact c1
  · rw [e1, gi_le h1 h2 (by omega) (by omega)] at z2; omega
theorem wu_load (h1 : -2147483648 ≤ a) (h2 : a < 2147483648) (hnb : nb ≤ 700) (e1 : I 4 0 0 1 = gi nb) (ht : ∀ k, k < nb → (0 ≤ t k ∧ t k < 256) ∧ I 5 0 0 k &&& gi 255 = gi (t k)) (k0 : ¬ (0 ≤ a ∧ a ≤ nb) → Q (.inl (.int (gi 1))) I J B) (kE : ∀ m : Nat, a = m → m ≤ nb → ∀ er pos, parseF t m = .inl (er, pos) → ∀ I' J', FPz I I' → FJ 2 J J' → I' 4 0 0 3 = gi er → I' 4 0 0 4 = gi pos → I' 4 0 0 1 = gi 0 → Q (.inl (.int (gi 2))) I' J' B) (kO : ∀ m : Nat, a = m → m ≤ nb → ∀ f, parseF t m = .inr f → ∀ I' J', FL2 I I' → FJ2 J J' → Rst (bgF f) I' J' 0 → I' 13 0 0 2 = gi 0 → I' 16 0 0 0 = gi 0 → I' 16 0 0 1 = gi 0 → I' 4 0 0 3 = gi 0 → I' 4 0 0 1 = gi 0 → J' 46 0 0 = Int32.toInt64 (gi (bgF f 0)) → Q (.inl (.int (gi 0))) I' J' B) : gC E 254 [.inr (3, 0, 0), .inl (.int (gi a)), .inr (46, 0, 0)] I J B Q X :=
  e_L_load ⟨⟨by decide, by decide⟩, c_load h1 h2 hnb e1 ht k0 kE (fun m hm hmn f hf I' J' fl fj r c13 c16 c17 c3 c1 => And.intro vp0 (kO m hm hmn f hf I' _ fl (fun a b d z z2 => (if_neg (by omega)).trans (fj a b d z z2)) r.to46 c13 c16 c17 c3 c1 (if_pos ⟨rfl, rfl, rfl⟩)))⟩
/-- behind an attempt that fails -/
theorem Rl.fail {I' : gI} {J' : gJ} (hR : Rl I J B) (fb : FBe I I') (fj : FJ 2 J J') (hB : Buf I') : Rl I' J' B := by
  obtain ⟨o, c, nx, h, hS, hC, hD, hz, hBk, hF, hT⟩ := id hR.1
  refine ⟨⟨o, c, nx, h, ?_, hC.to (fun d => fb 13 0 0 d (by omega) (by omega) (by omega) (by omega) (by omega)) (fun a b d z1 z2 z3 z4 => fb a b 0 d (by omega) (by omega) (by omega) (by omega) (by omega)) (fun a b d z1 z2 z3 => fj a b d (by omega)), hD.to hC.2.2.1 (fb 31 0 0 4 (by omega) (by omega) (by omega) (by omega) (by omega)) (fun i z1 _ => fb 33 0 0 i (by omega) (by omega) (by omega) (by omega) (by omega)), hz, hBk, hB, fun s hs => (hT s hs).to hs (fb 16 0 0 s (by omega) (by omega) (by omega) (by omega) (by omega)) (fb 34 0 0 s (by omega) (by omega) (by omega) (by omega) (by omega)) (fun a d z1 z2 => fb a (11 + s) 0 d (by omega) (by omega) (by omega) (by omega) (by omega)) (fun a d z1 => fj a (11 + s) d (by omega)) (fun i z1 _ => fb 33 0 0 i (by omega) (by omega) (by omega) (by omega) (by omega)) (fun _ z => z)⟩, fun z s hs => (fb 34 0 0 s (by omega) (by omega) (by omega) (by omega) (by omega)).trans (hR.2 ((fb 31 0 0 1 (by omega) (by omega) (by omega) (by omega) (by omega)).symm.trans z) s hs)⟩
  cases o with
  | none =>
    obtain ⟨g1, g2, g3, g4, g5⟩ := hS
    exact ⟨(fb 31 0 0 1 (by omega) (by omega) (by omega) (by omega) (by omega)).trans g1, (fb 6 0 0 0 (by omega) (by omega) (by omega) (by omega) (by omega)).trans g2, (fb 6 0 0 1 (by omega) (by omega) (by omega) (by omega) (by omega)).trans g3, (fb 6 0 0 9 (by omega) (by omega) (by omega) (by omega) (by omega)).trans g4, (fb 32 0 0 0 (by omega) (by omega) (by omega) (by omega) (by omega)).trans g5⟩
  | some f =>
    obtain ⟨g1, g2, g3, g4⟩ := hS
    exact ⟨(fb 31 0 0 1 (by omega) (by omega) (by omega) (by omega) (by omega)).trans g1, g2, g3.to (fun a d z1 z2 => fb a 0 0 d (by omega) (by omega) (by omega) (by omega) (by omega)) (fun a d z => fj a 0 d (by omega)), g4.to fun q hq => fb 32 0 0 q (by omega) (by omega) (by omega) (by omega) (by omega)⟩
theorem k_load (hR : Rl I J B) (y : Ly E y5) (hc : cc + 12 ≤ 601024) (hw : w + 172 ≤ 7293034) (k : Kx E Q X y5 cc w) : gG E 313 365 (lls y5) [] I J B cc w Q X := by
  obtain ⟨y1, y2, y3, y4, y6⟩ := y
  obtain ⟨a, h1, h2, e1⟩ := gi_ex (gXs E (Int32.toNatClampNeg (y5 + gi 1)))
  obtain ⟨o, c2, nx, hh, hS, hC, hD, hz, hB, hF, hT⟩ := id hR.1
  obtain ⟨nb, b1, b2, b3, b4, b5, b6⟩ := id hF
  obtain ⟨t, ht⟩ : ∃ t : Nat → Int, ∀ k, (0 ≤ t k ∧ t k < 256) ∧ I 5 0 0 k &&& gi 255 = gi (t k) := by
    have q : ∀ k, ∃ j : Nat, j < 256 ∧ I 5 0 0 k &&& gi 255 = gi (j : Int) := fun k => and255 _
    exact ⟨fun k => ((q k).choose : Int), fun k => ⟨⟨Int.natCast_nonneg _, by have := (q k).choose_spec.1; show ((q k).choose : Int) < 256; omega⟩, (q k).choose_spec.2⟩⟩
  refine s_L_law_365 ?_
  rw [e1]
  refine ⟨y1, ⟨by omega, by omega⟩, ?_⟩
  have hpF : ∀ m f, m ≤ nb → parseF t m = .inr f → 0 ≤ f 0 ∧ f 0 ≤ 7 := fun m f _ h => (parseF_ok h).2
  refine wu_load (nb := nb) (t := t) h1 h2 b1 b2 (fun k _ => ht k) (fun no => ?_) (fun m hm hmn er pos hp I1 J1 fp fj c3 c4 c1 => ?_) (fun m hm hmn f hp I1 J1 fl fj r c13 c16 c17 c3 c1 v1 => ?_)
  · refine And.intro y1 ?_
    refine m_load (nb := nb) (t := t) h1 h2 b1 b3 (fun k hk => ⟨(ht k).1, (b4 k hk).trans (ht k).2⟩) hpF (fun _ I2 t2 g2 => ?_) (fun m hm hmn => absurd ⟨by omega, by omega⟩ no) (fun m hm hmn => absurd ⟨by omega, by omega⟩ no)
    exact lt_ok (e := 1) (r := Int32.toInt64 (gi 0)) (by decide) g2 (fun z => absurd z (by decide)) (k _ _ _ (hR.q t2.q (fun _ _ _ _ _ => rfl)) _ _ (by omega) (by omega))
  · refine And.intro y1 ?_
    refine m_load (nb := nb) (t := t) h1 h2 b1 ((fp 31 0 0 7 (by omega) (by omega)).trans b3) (fun k hk => ⟨(ht k).1, (fp 35 0 0 k (by omega) (by omega)).trans ((b4 k hk).trans (ht k).2)⟩) hpF (fun no => absurd ⟨by omega, by omega⟩ no) (fun m' hm' hmn' er' pos' hp' p1 p2 I2 fe g2 d7 d8 d9 => ?_) (fun m' hm' hmn' f hp' => ?_)
    · have mm : m' = m := by omega
      subst mm
      rw [hp] at hp'
      cases hp'
      refine lt_ok (e := 2) (r := Int32.toInt64 (gi 0)) (by decide) g2 (fun z => absurd z (by decide)) (k _ _ _ (hR.fail (fun a b c d z1 z2 z3 z4 z5 => (fe a b c d z3 z4 z5).trans (fp a b c d (by omega) z2)) fj ⟨0, by decide, ?_, d7, fun k hk => absurd hk (Nat.not_lt_zero k), ?_, ?_⟩) _ _ (by omega) (by omega))
      · exact (fe 4 0 0 1 (by omega) (by omega) (by omega)).trans c1
      · rw [d8, fe 4 0 0 3 (by omega) (by omega) (by omega), c3]
      · rw [d9, fe 4 0 0 3 (by omega) (by omega) (by omega), fe 4 0 0 4 (by omega) (by omega) (by omega), c3, c4, if_neg (gi_n0 p1 p2)]
    · have mm : m' = m := by omega
      subst mm
      rw [hp] at hp'
      cases hp'
  · refine And.intro y1 ?_
    refine m_load (nb := nb) (t := t) h1 h2 b1 ((fl 31 0 0 7 (by omega) (by omega) (by omega) (by omega)).trans b3) (fun k hk => ⟨(ht k).1, (fl 35 0 0 k (by omega) (by omega) (by omega) (by omega)).trans ((b4 k hk).trans (ht k).2)⟩) hpF (fun no => absurd ⟨by omega, by omega⟩ no) (fun m' hm' hmn' er' pos' hp' => ?_) (fun m' hm' hmn' f' hp' I2 fo g2 d1 d4 d7 d8 d9 hM s0 s1 => ?_)
    · have mm : m' = m := by omega
      subst mm
      rw [hp] at hp'
      cases hp'
    · have mm : m' = m := by omega
      subst mm
      rw [hp] at hp'
      cases hp'
      have hv := (parseF_ok hp).1
      refine lt_ok (e := 0) (r := Int32.toInt64 (gi _)) (by decide) g2 (fun _ => v1) (k _ _ _ ⟨⟨some (bgF f), 0, nx, hh, ⟨d1, hv, r.to (fun a d z1 z2 => fo a 0 0 d (by omega)) (fun _ _ _ => rfl), hM⟩, ⟨(fo 13 0 0 2 (by omega)).trans c13, (fo 13 0 0 1 (by omega)).trans ((fl 13 0 0 1 (by omega) (by omega) (by omega) (by omega)).trans hC.2.1), by omega, hC.2.2.2.1, fun j hj => absurd hj (Nat.not_lt_zero j)⟩, ⟨d4, fun j hj => absurd hj (Nat.not_lt_zero j)⟩, (fun z => by cases z), hB, ⟨0, by decide, (fo 4 0 0 1 (by omega)).trans c1, d7, fun k hk => absurd hk (Nat.not_lt_zero k), ?_, ?_⟩, fun s hs => Or.inl ?_⟩, fun z => absurd (d1.symm.trans z) gi01⟩ _ _ (by omega) (by omega))
      · rw [d8, fo 4 0 0 3 (by omega), c3]
      · rw [d9, fo 4 0 0 3 (by omega), c3, if_pos rfl]
      · have q : s = 0 ∨ s = 1 := by omega
        rcases q with rfl | rfl
        · exact ⟨(fo 16 0 0 0 (by omega)).trans c16, s0⟩
        · exact ⟨(fo 16 0 0 1 (by omega)).trans c17, s1⟩
end YF
