/-! ===== the law's cases: questions ===== -/
def Cw (E : gEn) (y : Nat) (args : List gV) (I : gI) (J : gJ) (B : gB) (e : Nat) (m : Nat) (v : Int64) : Prop := ∀ (Q : gQt) (X : gXt), (∀ I' J', QF I I' → J6 J J' → (e = 0 → J' m 0 0 = v) → Q (.inl (.int (gi e))) I' J' B) → gC E y args I J B Q X
section YK
variable {E : gEn} {Q : gQt} {X : gXt} {I : gI} {J : gJ} {B : gB} {y5 : Int32} {c w e : Nat} {a b d : Int} {r x : Int32}
theorem w_diagonal {r : Int32} (h : Cl E 59 [.inr (3, 0, 0), .inl (.int (gi a))] I J B e (.inl (.int r))) (he : e ≤ 2) : Cw E 255 [.inr (3, 0, 0), .inl (.int (gi a)), .inr (46, 0, 0)] I J B e 46 (Int32.toInt64 r) :=
  fun Q X k => e_L_diagonal ⟨⟨by decide, by decide⟩, h.w 2 he (by decide) (fun _ _ _ h => h) (fun _ _ _ h => h) (fun z => absurd z (by decide)) k⟩
theorem k_diagonal (hR : Rl I J B) (y : Ly E y5) (hc : c + 12 ≤ 601024) (hw : w + 172 ≤ 7293034) (k : Kx E Q X y5 c w) : gG E 313 486 (lls y5) [] I J B c w Q X := by
  obtain ⟨y1, y2, y3, y4, y6⟩ := y
  obtain ⟨a, h1, h2, e1⟩ := gi_ex (gXs E (Int32.toNatClampNeg (y5 + gi 1)))
  obtain ⟨o, c2, nx, hh, hS, _⟩ := id hR.1
  refine s_L_law_486 ?_
  rw [e1]
  refine ⟨y1, ⟨by omega, by omega⟩, ?_⟩
  refine w_diagonal (c_diagonal h1 h2 hS) (eM_le (fun f => by (try dsimp only); (repeat' split) <;> first | omega | exact fre_le) (by decide)) _ _ fun I1 J1 q1 j1 v1 => ?_
  refine And.intro y1 ?_
  refine m_diagonal h1 h2 (hS.j6 q1 j1) _ _ fun I2 J2 q2 j2 g2 r2 v2 => ?_
  refine lt_ok (r := Int32.toInt64 r2) (eM_le (fun f => by (try dsimp only); (repeat' split) <;> first | omega | exact fre_le) (by decide)) g2 (fun z => ?_) (k _ _ _ (hR.q (q1.tr q2) (j1.tr j2.j6)) _ _ (by omega) (by omega))
  rw [j2.l46, v1 z]
  exact congrArg Int32.toInt64 (vint (v2 z))
theorem w_entry {r : Int32} (h : Cl E 60 [.inr (3, 0, 0), .inl (.int (gi a)), .inl (.int (gi b))] I J B e (.inl (.int r))) (he : e ≤ 2) : Cw E 256 [.inr (3, 0, 0), .inl (.int (gi a)), .inl (.int (gi b)), .inr (46, 0, 0)] I J B e 46 (Int32.toInt64 r) :=
  fun Q X k => e_L_entry ⟨⟨by decide, by decide⟩, h.w 2 he (by decide) (fun _ _ _ h => h) (fun _ _ _ h => h) (fun z => absurd z (by decide)) k⟩
theorem k_entry (hR : Rl I J B) (y : Ly E y5) (hc : c + 12 ≤ 601024) (hw : w + 172 ≤ 7293034) (k : Kx E Q X y5 c w) : gG E 313 542 (lls y5) [] I J B c w Q X := by
  obtain ⟨y1, y2, y3, y4, y6⟩ := y
  obtain ⟨a, h1, h2, e1⟩ := gi_ex (gXs E (Int32.toNatClampNeg (y5 + gi 1)))
  obtain ⟨b, h3, h4, e2⟩ := gi_ex (gXs E (Int32.toNatClampNeg (y5 + gi 2)))
  obtain ⟨o, c2, nx, hh, hS, _⟩ := id hR.1
  refine s_L_law_542 ?_
  rw [e1, e2]
  refine ⟨y1, y2, ⟨by omega, by omega⟩, ?_⟩
  refine w_entry (c_entry h1 h2 h3 h4 hS) (eM_le (fun f => by (try dsimp only); (repeat' split) <;> first | omega | exact fre_le) (by decide)) _ _ fun I1 J1 q1 j1 v1 => ?_
  refine And.intro y1 (And.intro y2 ?_)
  refine m_entry h1 h2 h3 h4 (hS.j6 q1 j1) _ _ fun I2 J2 q2 j2 g2 r2 v2 => ?_
  refine lt_ok (r := Int32.toInt64 r2) (eM_le (fun f => by (try dsimp only); (repeat' split) <;> first | omega | exact fre_le) (by decide)) g2 (fun z => ?_) (k _ _ _ (hR.q (q1.tr q2) (j1.tr j2.j6)) _ _ (by omega) (by omega))
  rw [j2.l46, v1 z]
  exact congrArg Int32.toInt64 (vint (v2 z))
theorem w_side {r : Int32} (h : Cl E 61 [.inr (3, 0, 0), .inl (.int (gi a))] I J B e (.inl (.int r))) (he : e ≤ 2) : Cw E 257 [.inr (3, 0, 0), .inl (.int (gi a)), .inr (46, 0, 0)] I J B e 46 (Int32.toInt64 r) :=
  fun Q X k => e_L_side ⟨⟨by decide, by decide⟩, h.w 2 he (by decide) (fun _ _ _ h => h) (fun _ _ _ h => h) (fun z => absurd z (by decide)) k⟩
theorem k_side (hR : Rl I J B) (y : Ly E y5) (hc : c + 12 ≤ 601024) (hw : w + 172 ≤ 7293034) (k : Kx E Q X y5 c w) : gG E 313 610 (lls y5) [] I J B c w Q X := by
  obtain ⟨y1, y2, y3, y4, y6⟩ := y
  obtain ⟨a, h1, h2, e1⟩ := gi_ex (gXs E (Int32.toNatClampNeg (y5 + gi 1)))
  obtain ⟨o, c2, nx, hh, hS, _⟩ := id hR.1
  refine s_L_law_610 ?_
  rw [e1]
  refine ⟨y1, ⟨by omega, by omega⟩, ?_⟩
  refine w_side (c_side h1 h2 hS) (eM_le (fun f => by (try dsimp only); (repeat' split) <;> first | omega | exact fre_le) (by decide)) _ _ fun I1 J1 q1 j1 v1 => ?_
  refine And.intro y1 ?_
  refine m_side h1 h2 (hS.j6 q1 j1) _ _ fun I2 J2 q2 j2 g2 r2 v2 => ?_
  refine lt_ok (r := Int32.toInt64 r2) (eM_le (fun f => by (try dsimp only); (repeat' split) <;> first | omega | exact fre_le) (by decide)) g2 (fun z => ?_) (k _ _ _ (hR.q (q1.tr q2) (j1.tr j2.j6)) _ _ (by omega) (by omega))
  rw [j2.l46, v1 z]
  exact congrArg Int32.toInt64 (vint (v2 z))
theorem w_probe {r : Int32} (h : Cl E 62 [.inr (3, 0, 0), .inl (.int (gi a))] I J B e (.inl (.int r))) (he : e ≤ 2) : Cw E 258 [.inr (3, 0, 0), .inl (.int (gi a)), .inr (46, 0, 0)] I J B e 46 (Int32.toInt64 r) :=
  fun Q X k => e_L_probe ⟨⟨by decide, by decide⟩, h.w 2 he (by decide) (fun _ _ _ h => h) (fun _ _ _ h => h) (fun z => absurd z (by decide)) k⟩
theorem k_probe (hR : Rl I J B) (y : Ly E y5) (hc : c + 12 ≤ 601024) (hw : w + 172 ≤ 7293034) (k : Kx E Q X y5 c w) : gG E 313 666 (lls y5) [] I J B c w Q X := by
  obtain ⟨y1, y2, y3, y4, y6⟩ := y
  obtain ⟨a, h1, h2, e1⟩ := gi_ex (gXs E (Int32.toNatClampNeg (y5 + gi 1)))
  obtain ⟨o, c2, nx, hh, hS, _⟩ := id hR.1
  refine s_L_law_666 ?_
  rw [e1]
  refine ⟨y1, ⟨by omega, by omega⟩, ?_⟩
  refine w_probe (c_probe h1 h2 hS) (eM_le (fun f => by (try dsimp only); (repeat' split) <;> first | omega | exact fre_le) (by decide)) _ _ fun I1 J1 q1 j1 v1 => ?_
  refine And.intro y1 ?_
  refine m_probe h1 h2 (hS.j6 q1 j1) _ _ fun I2 J2 q2 j2 g2 r2 v2 => ?_
  refine lt_ok (r := Int32.toInt64 r2) (eM_le (fun f => by (try dsimp only); (repeat' split) <;> first | omega | exact fre_le) (by decide)) g2 (fun z => ?_) (k _ _ _ (hR.q (q1.tr q2) (j1.tr j2.j6)) _ _ (by omega) (by omega))
  rw [j2.l46, v1 z]
  exact congrArg Int32.toInt64 (vint (v2 z))
theorem w_minor {r : Int32} (h : Cl E 63 [.inr (3, 0, 0), .inl (.int (gi a))] I J B e (.inl (.int r))) (he : e ≤ 2) : Cw E 259 [.inr (3, 0, 0), .inl (.int (gi a)), .inr (46, 0, 0)] I J B e 46 (Int32.toInt64 r) :=
  fun Q X k => e_L_minor ⟨⟨by decide, by decide⟩, h.w 2 he (by decide) (fun _ _ _ h => h) (fun _ _ _ h => h) (fun z => absurd z (by decide)) k⟩
theorem k_minor (hR : Rl I J B) (y : Ly E y5) (hc : c + 12 ≤ 601024) (hw : w + 172 ≤ 7293034) (k : Kx E Q X y5 c w) : gG E 313 722 (lls y5) [] I J B c w Q X := by
  obtain ⟨y1, y2, y3, y4, y6⟩ := y
  obtain ⟨a, h1, h2, e1⟩ := gi_ex (gXs E (Int32.toNatClampNeg (y5 + gi 1)))
  obtain ⟨o, c2, nx, hh, hS, _⟩ := id hR.1
  refine s_L_law_722 ?_
  rw [e1]
  refine ⟨y1, ⟨by omega, by omega⟩, ?_⟩
  refine w_minor (c_minor h1 h2 hS) (eM_le (fun f => by (try dsimp only); (repeat' split) <;> first | omega | exact fre_le) (by decide)) _ _ fun I1 J1 q1 j1 v1 => ?_
  refine And.intro y1 ?_
  refine m_minor h1 h2 (hS.j6 q1 j1) _ _ fun I2 J2 q2 j2 g2 r2 v2 => ?_
  refine lt_ok (r := Int32.toInt64 r2) (eM_le (fun f => by (try dsimp only); (repeat' split) <;> first | omega | exact fre_le) (by decide)) g2 (fun z => ?_) (k _ _ _ (hR.q (q1.tr q2) (j1.tr j2.j6)) _ _ (by omega) (by omega))
  rw [j2.l46, v1 z]
  exact congrArg Int32.toInt64 (vint (v2 z))
theorem w_rank {r : Int32} (h : Cl E 64 [.inr (3, 0, 0)] I J B e (.inl (.int r))) (he : e ≤ 1) : Cw E 260 [.inr (3, 0, 0), .inr (46, 0, 0)] I J B e 46 (Int32.toInt64 r) :=
  fun Q X k => e_L_rank ⟨⟨by decide, by decide⟩, h.w 1 he (by decide) (fun _ _ _ h => h) (fun z => absurd z (by decide)) (fun z => absurd z (by decide)) k⟩
theorem k_rank (hR : Rl I J B) (y : Ly E y5) (hc : c + 12 ≤ 601024) (hw : w + 172 ≤ 7293034) (k : Kx E Q X y5 c w) : gG E 313 778 (lls y5) [] I J B c w Q X := by
  obtain ⟨y1, y2, y3, y4, y6⟩ := y
  obtain ⟨o, c2, nx, hh, hS, _⟩ := id hR.1
  refine s_L_law_778 ?_
  refine ⟨⟨by omega, by omega⟩, ?_⟩
  refine w_rank (c_rank hS) (eM_le (fun f => by (try dsimp only); (repeat' split) <;> first | omega | exact fre_le) (by decide)) _ _ fun I1 J1 q1 j1 v1 => ?_
  refine m_rank (hS.j6 q1 j1) _ _ fun I2 J2 q2 j2 g2 r2 v2 => ?_
  refine lt_ok (r := Int32.toInt64 r2) (eM_le (fun f => by (try dsimp only); (repeat' split) <;> first | omega | exact fre_le) (by decide)) g2 (fun z => ?_) (k _ _ _ (hR.q (q1.tr q2) (j1.tr j2.j6)) _ _ (by omega) (by omega))
  rw [j2.l46, v1 z]
  exact congrArg Int32.toInt64 (vint (v2 z))
theorem w_isRegular {r : Int32} (h : Cl E 65 [.inr (3, 0, 0)] I J B e (.inl (.int r))) (he : e ≤ 1) : Cw E 261 [.inr (3, 0, 0), .inr (46, 0, 0)] I J B e 46 (if r = gi 0 then gj 0 else gj 1) :=
  fun Q X k => e_L_isRegular ⟨⟨by decide, by decide⟩, h.wb 1 he (by decide) (fun _ _ _ h => h) (fun z => absurd z (by decide)) (fun z => absurd z (by decide)) k⟩
theorem k_isRegular (hR : Rl I J B) (y : Ly E y5) (hc : c + 12 ≤ 601024) (hw : w + 172 ≤ 7293034) (k : Kx E Q X y5 c w) : gG E 313 822 (lls y5) [] I J B c w Q X := by
  obtain ⟨y1, y2, y3, y4, y6⟩ := y
  obtain ⟨o, c2, nx, hh, hS, _⟩ := id hR.1
  refine s_L_law_822 ?_
  refine ⟨⟨by omega, by omega⟩, ?_⟩
  refine w_isRegular (c_isRegular hS) (eM_le (fun f => by (try dsimp only); (repeat' split) <;> first | omega | exact fre_le) (by decide)) _ _ fun I1 J1 q1 j1 v1 => ?_
  refine m_isRegular (hS.j6 q1 j1) _ _ fun I2 J2 q2 j2 g2 r2 v2 => ?_
  refine lt_okb (r := r2) (eM_le (fun f => by (try dsimp only); (repeat' split) <;> first | omega | exact fre_le) (by decide)) g2 (fun z => ?_) (k _ _ _ (hR.q (q1.tr q2) (j1.tr j2.j6)) _ _ (by omega) (by omega))
  rw [j2.l46, v1 z, vint (v2 z)]
theorem w_steps {r : Int32} (h : Cl E 66 [.inr (3, 0, 0)] I J B e (.inl (.int r))) (he : e ≤ 1) : Cw E 262 [.inr (3, 0, 0), .inr (46, 0, 0)] I J B e 46 (Int32.toInt64 r) :=
  fun Q X k => e_L_steps ⟨⟨by decide, by decide⟩, h.w 1 he (by decide) (fun _ _ _ h => h) (fun z => absurd z (by decide)) (fun z => absurd z (by decide)) k⟩
theorem k_steps (hR : Rl I J B) (y : Ly E y5) (hc : c + 12 ≤ 601024) (hw : w + 172 ≤ 7293034) (k : Kx E Q X y5 c w) : gG E 313 873 (lls y5) [] I J B c w Q X := by
  obtain ⟨y1, y2, y3, y4, y6⟩ := y
  obtain ⟨o, c2, nx, hh, hS, _⟩ := id hR.1
  refine s_L_law_873 ?_
  refine ⟨⟨by omega, by omega⟩, ?_⟩
  refine w_steps (c_steps hS) (eM_le (fun f => by (try dsimp only); (repeat' split) <;> first | omega | exact fre_le) (by decide)) _ _ fun I1 J1 q1 j1 v1 => ?_
  refine m_steps (hS.j6 q1 j1) _ _ fun I2 J2 q2 j2 g2 r2 v2 => ?_
  refine lt_ok (r := Int32.toInt64 r2) (eM_le (fun f => by (try dsimp only); (repeat' split) <;> first | omega | exact fre_le) (by decide)) g2 (fun z => ?_) (k _ _ _ (hR.q (q1.tr q2) (j1.tr j2.j6)) _ _ (by omega) (by omega))
  rw [j2.l46, v1 z]
  exact congrArg Int32.toInt64 (vint (v2 z))
theorem w_stepEnd {r : Int32} (h : Cl E 67 [.inr (3, 0, 0), .inl (.int (gi a))] I J B e (.inl (.int r))) (he : e ≤ 2) : Cw E 263 [.inr (3, 0, 0), .inl (.int (gi a)), .inr (46, 0, 0)] I J B e 46 (Int32.toInt64 r) :=
  fun Q X k => e_L_stepEnd ⟨⟨by decide, by decide⟩, h.w 2 he (by decide) (fun _ _ _ h => h) (fun _ _ _ h => h) (fun z => absurd z (by decide)) k⟩
theorem k_stepEnd (hR : Rl I J B) (y : Ly E y5) (hc : c + 12 ≤ 601024) (hw : w + 172 ≤ 7293034) (k : Kx E Q X y5 c w) : gG E 313 917 (lls y5) [] I J B c w Q X := by
  obtain ⟨y1, y2, y3, y4, y6⟩ := y
  obtain ⟨a, h1, h2, e1⟩ := gi_ex (gXs E (Int32.toNatClampNeg (y5 + gi 1)))
  obtain ⟨o, c2, nx, hh, hS, _⟩ := id hR.1
  refine s_L_law_917 ?_
  rw [e1]
  refine ⟨y1, ⟨by omega, by omega⟩, ?_⟩
  refine w_stepEnd (c_stepEnd h1 h2 hS) (eM_le (fun f => by (try dsimp only); (repeat' split) <;> first | omega | exact fre_le) (by decide)) _ _ fun I1 J1 q1 j1 v1 => ?_
  refine And.intro y1 ?_
  refine m_stepEnd h1 h2 (hS.j6 q1 j1) _ _ fun I2 J2 q2 j2 g2 r2 v2 => ?_
  refine lt_ok (r := Int32.toInt64 r2) (eM_le (fun f => by (try dsimp only); (repeat' split) <;> first | omega | exact fre_le) (by decide)) g2 (fun z => ?_) (k _ _ _ (hR.q (q1.tr q2) (j1.tr j2.j6)) _ _ (by omega) (by omega))
  rw [j2.l46, v1 z]
  exact congrArg Int32.toInt64 (vint (v2 z))
theorem w_longestJump {r : Int32} (h : Cl E 68 [.inr (3, 0, 0)] I J B e (.inl (.int r))) (he : e ≤ 1) : Cw E 264 [.inr (3, 0, 0), .inr (46, 0, 0)] I J B e 46 (Int32.toInt64 r) :=
  fun Q X k => e_L_longestJump ⟨⟨by decide, by decide⟩, h.w 1 he (by decide) (fun _ _ _ h => h) (fun z => absurd z (by decide)) (fun z => absurd z (by decide)) k⟩
theorem k_longestJump (hR : Rl I J B) (y : Ly E y5) (hc : c + 12 ≤ 601024) (hw : w + 172 ≤ 7293034) (k : Kx E Q X y5 c w) : gG E 313 973 (lls y5) [] I J B c w Q X := by
  obtain ⟨y1, y2, y3, y4, y6⟩ := y
  obtain ⟨o, c2, nx, hh, hS, _⟩ := id hR.1
  refine s_L_law_973 ?_
  refine ⟨⟨by omega, by omega⟩, ?_⟩
  refine w_longestJump (c_longestJump hS) (eM_le (fun f => by (try dsimp only); (repeat' split) <;> first | omega | exact fre_le) (by decide)) _ _ fun I1 J1 q1 j1 v1 => ?_
  refine m_longestJump (hS.j6 q1 j1) _ _ fun I2 J2 q2 j2 g2 r2 v2 => ?_
  refine lt_ok (r := Int32.toInt64 r2) (eM_le (fun f => by (try dsimp only); (repeat' split) <;> first | omega | exact fre_le) (by decide)) g2 (fun z => ?_) (k _ _ _ (hR.q (q1.tr q2) (j1.tr j2.j6)) _ _ (by omega) (by omega))
  rw [j2.l46, v1 z]
  exact congrArg Int32.toInt64 (vint (v2 z))
theorem w_tail {r : Int32} (h : Cl E 69 [.inr (3, 0, 0)] I J B e (.inl (.int r))) (he : e ≤ 1) : Cw E 265 [.inr (3, 0, 0), .inr (46, 0, 0)] I J B e 46 (Int32.toInt64 r) :=
  fun Q X k => e_L_tail ⟨⟨by decide, by decide⟩, h.w 1 he (by decide) (fun _ _ _ h => h) (fun z => absurd z (by decide)) (fun z => absurd z (by decide)) k⟩
theorem k_tail (hR : Rl I J B) (y : Ly E y5) (hc : c + 12 ≤ 601024) (hw : w + 172 ≤ 7293034) (k : Kx E Q X y5 c w) : gG E 313 1017 (lls y5) [] I J B c w Q X := by
  obtain ⟨y1, y2, y3, y4, y6⟩ := y
  obtain ⟨o, c2, nx, hh, hS, _⟩ := id hR.1
  refine s_L_law_1017 ?_
  refine ⟨⟨by omega, by omega⟩, ?_⟩
  refine w_tail (c_tail hS) (eM_le (fun f => by (try dsimp only); (repeat' split) <;> first | omega | exact fre_le) (by decide)) _ _ fun I1 J1 q1 j1 v1 => ?_
  refine m_tail (hS.j6 q1 j1) _ _ fun I2 J2 q2 j2 g2 r2 v2 => ?_
  refine lt_ok (r := Int32.toInt64 r2) (eM_le (fun f => by (try dsimp only); (repeat' split) <;> first | omega | exact fre_le) (by decide)) g2 (fun z => ?_) (k _ _ _ (hR.q (q1.tr q2) (j1.tr j2.j6)) _ _ (by omega) (by omega))
  rw [j2.l46, v1 z]
  exact congrArg Int32.toInt64 (vint (v2 z))
theorem w_regularPrimes {r : Int32} (h : Cl E 70 [.inr (3, 0, 0)] I J B e (.inl (.int r))) (he : e ≤ 1) : Cw E 266 [.inr (3, 0, 0), .inr (46, 0, 0)] I J B e 46 (Int32.toInt64 r) :=
  fun Q X k => e_L_regularPrimes ⟨⟨by decide, by decide⟩, h.w 1 he (by decide) (fun _ _ _ h => h) (fun z => absurd z (by decide)) (fun z => absurd z (by decide)) k⟩
theorem k_regularPrimes (hR : Rl I J B) (y : Ly E y5) (hc : c + 12 ≤ 601024) (hw : w + 172 ≤ 7293034) (k : Kx E Q X y5 c w) : gG E 313 1061 (lls y5) [] I J B c w Q X := by
  obtain ⟨y1, y2, y3, y4, y6⟩ := y
  obtain ⟨o, c2, nx, hh, hS, _⟩ := id hR.1
  refine s_L_law_1061 ?_
  refine ⟨⟨by omega, by omega⟩, ?_⟩
  refine w_regularPrimes (c_regularPrimes hS) (eM_le (fun f => by (try dsimp only); (repeat' split) <;> first | omega | exact fre_le) (by decide)) _ _ fun I1 J1 q1 j1 v1 => ?_
  refine m_regularPrimes (hS.j6 q1 j1) _ _ fun I2 J2 q2 j2 g2 r2 v2 => ?_
  refine lt_ok (r := Int32.toInt64 r2) (eM_le (fun f => by (try dsimp only); (repeat' split) <;> first | omega | exact fre_le) (by decide)) g2 (fun z => ?_) (k _ _ _ (hR.q (q1.tr q2) (j1.tr j2.j6)) _ _ (by omega) (by omega))
  rw [j2.l46, v1 z]
  exact congrArg Int32.toInt64 (vint (v2 z))
theorem w_minorIf {r : Int32} (h : Cl E 71 [.inr (3, 0, 0), .inl (.int (gi a)), .inl (.int (gi b)), .inl (.int (gi d))] I J B e (.inl (.int r))) (he : e ≤ 3) : Cw E 267 [.inr (3, 0, 0), .inl (.int (gi a)), .inl (.int (gi b)), .inl (.int (gi d)), .inr (46, 0, 0)] I J B e 46 (Int32.toInt64 r) :=
  fun Q X k => e_L_minorIf ⟨⟨by decide, by decide⟩, h.w 3 he (by decide) (fun _ _ _ h => h) (fun _ _ _ h => h) (fun _ _ _ h => h) k⟩
theorem k_minorIf (hR : Rl I J B) (y : Ly E y5) (hc : c + 12 ≤ 601024) (hw : w + 172 ≤ 7293034) (k : Kx E Q X y5 c w) : gG E 313 1105 (lls y5) [] I J B c w Q X := by
  obtain ⟨y1, y2, y3, y4, y6⟩ := y
  obtain ⟨a, h1, h2, e1⟩ := gi_ex (gXs E (Int32.toNatClampNeg (y5 + gi 1)))
  obtain ⟨b, h3, h4, e2⟩ := gi_ex (gXs E (Int32.toNatClampNeg (y5 + gi 2)))
  obtain ⟨d, h5, h6, e3⟩ := gi_ex (gXs E (Int32.toNatClampNeg (y5 + gi 3)))
  obtain ⟨o, c2, nx, hh, hS, _⟩ := id hR.1
  refine s_L_law_1105 ?_
  rw [e1, e2, e3]
  refine ⟨y1, y2, y3, ⟨by omega, by omega⟩, ?_⟩
  refine w_minorIf (c_minorIf h1 h2 h3 h4 h5 h6 hS) (eM_le (fun f => by (try dsimp only); (repeat' split) <;> first | omega | exact fre_le) (by decide)) _ _ fun I1 J1 q1 j1 v1 => ?_
  refine And.intro y1 (And.intro y2 (And.intro y3 ?_))
  refine m_minorIf h1 h2 h3 h4 h5 h6 (hS.j6 q1 j1) _ _ fun I2 J2 q2 j2 g2 r2 v2 => ?_
  refine lt_ok (r := Int32.toInt64 r2) (eM_le (fun f => by (try dsimp only); (repeat' split) <;> first | omega | exact fre_le) (by decide)) g2 (fun z => ?_) (k _ _ _ (hR.q (q1.tr q2) (j1.tr j2.j6)) _ _ (by omega) (by omega))
  rw [j2.l46, v1 z]
  exact congrArg Int32.toInt64 (vint (v2 z))
theorem w_schur {r : Int32} (h : Cl E 72 [.inr (3, 0, 0), .inl (.int (gi a)), .inl (.int (gi b)), .inl (.int (gi d))] I J B e (.inl (.int r))) (he : e ≤ 2) : Cw E 268 [.inr (3, 0, 0), .inl (.int (gi a)), .inl (.int (gi b)), .inl (.int (gi d)), .inr (46, 0, 0)] I J B e 46 (Int32.toInt64 r) :=
  fun Q X k => e_L_schur ⟨⟨by decide, by decide⟩, h.w 2 he (by decide) (fun _ _ _ h => h) (fun _ _ _ h => h) (fun z => absurd z (by decide)) k⟩
theorem k_schur (hR : Rl I J B) (y : Ly E y5) (hc : c + 12 ≤ 601024) (hw : w + 172 ≤ 7293034) (k : Kx E Q X y5 c w) : gG E 313 1185 (lls y5) [] I J B c w Q X := by
  obtain ⟨y1, y2, y3, y4, y6⟩ := y
  obtain ⟨a, h1, h2, e1⟩ := gi_ex (gXs E (Int32.toNatClampNeg (y5 + gi 1)))
  obtain ⟨b, h3, h4, e2⟩ := gi_ex (gXs E (Int32.toNatClampNeg (y5 + gi 2)))
  obtain ⟨d, h5, h6, e3⟩ := gi_ex (gXs E (Int32.toNatClampNeg (y5 + gi 3)))
  obtain ⟨o, c2, nx, hh, hS, _⟩ := id hR.1
  refine s_L_law_1185 ?_
  rw [e1, e2, e3]
  refine ⟨y1, y2, y3, ⟨by omega, by omega⟩, ?_⟩
  refine w_schur (c_schur h1 h2 h3 h4 h5 h6 hS) (eM_le (fun f => by (try dsimp only); (repeat' split) <;> first | omega | exact fre_le) (by decide)) _ _ fun I1 J1 q1 j1 v1 => ?_
  refine And.intro y1 (And.intro y2 (And.intro y3 ?_))
  refine m_schur h1 h2 h3 h4 h5 h6 (hS.j6 q1 j1) _ _ fun I2 J2 q2 j2 g2 r2 v2 => ?_
  refine lt_ok (r := Int32.toInt64 r2) (eM_le (fun f => by (try dsimp only); (repeat' split) <;> first | omega | exact fre_le) (by decide)) g2 (fun z => ?_) (k _ _ _ (hR.q (q1.tr q2) (j1.tr j2.j6)) _ _ (by omega) (by omega))
  rw [j2.l46, v1 z]
  exact congrArg Int32.toInt64 (vint (v2 z))
theorem w_displacement {r : Int32} (h : Cl E 73 [.inr (3, 0, 0), .inl (.int (gi a)), .inl (.int (gi b)), .inl (.int (gi d))] I J B e (.inl (.int r))) (he : e ≤ 2) : Cw E 269 [.inr (3, 0, 0), .inl (.int (gi a)), .inl (.int (gi b)), .inl (.int (gi d)), .inr (46, 0, 0)] I J B e 46 (Int32.toInt64 r) :=
  fun Q X k => e_L_displacement ⟨⟨by decide, by decide⟩, h.w 2 he (by decide) (fun _ _ _ h => h) (fun _ _ _ h => h) (fun z => absurd z (by decide)) k⟩
theorem k_displacement (hR : Rl I J B) (y : Ly E y5) (hc : c + 12 ≤ 601024) (hw : w + 172 ≤ 7293034) (k : Kx E Q X y5 c w) : gG E 313 1265 (lls y5) [] I J B c w Q X := by
  obtain ⟨y1, y2, y3, y4, y6⟩ := y
  obtain ⟨a, h1, h2, e1⟩ := gi_ex (gXs E (Int32.toNatClampNeg (y5 + gi 1)))
  obtain ⟨b, h3, h4, e2⟩ := gi_ex (gXs E (Int32.toNatClampNeg (y5 + gi 2)))
  obtain ⟨d, h5, h6, e3⟩ := gi_ex (gXs E (Int32.toNatClampNeg (y5 + gi 3)))
  obtain ⟨o, c2, nx, hh, hS, _⟩ := id hR.1
  refine s_L_law_1265 ?_
  rw [e1, e2, e3]
  refine ⟨y1, y2, y3, ⟨by omega, by omega⟩, ?_⟩
  refine w_displacement (c_displacement h1 h2 h3 h4 h5 h6 hS) (eM_le (fun f => by (try dsimp only); (repeat' split) <;> first | omega | exact fre_le) (by decide)) _ _ fun I1 J1 q1 j1 v1 => ?_
  refine And.intro y1 (And.intro y2 (And.intro y3 ?_))
  refine m_displacement h1 h2 h3 h4 h5 h6 (hS.j6 q1 j1) _ _ fun I2 J2 q2 j2 g2 r2 v2 => ?_
  refine lt_ok (r := Int32.toInt64 r2) (eM_le (fun f => by (try dsimp only); (repeat' split) <;> first | omega | exact fre_le) (by decide)) g2 (fun z => ?_) (k _ _ _ (hR.q (q1.tr q2) (j1.tr j2.j6)) _ _ (by omega) (by omega))
  rw [j2.l46, v1 z]
  exact congrArg Int32.toInt64 (vint (v2 z))
theorem w_generators {r : Int32} (h : Cl E 74 [.inr (3, 0, 0), .inl (.int (gi a))] I J B e (.inl (.int r))) (he : e ≤ 2) : Cw E 270 [.inr (3, 0, 0), .inl (.int (gi a)), .inr (46, 0, 0)] I J B e 46 (Int32.toInt64 r) :=
  fun Q X k => e_L_generators ⟨⟨by decide, by decide⟩, h.w 2 he (by decide) (fun _ _ _ h => h) (fun _ _ _ h => h) (fun z => absurd z (by decide)) k⟩
theorem k_generators (hR : Rl I J B) (y : Ly E y5) (hc : c + 12 ≤ 601024) (hw : w + 172 ≤ 7293034) (k : Kx E Q X y5 c w) : gG E 313 1345 (lls y5) [] I J B c w Q X := by
  obtain ⟨y1, y2, y3, y4, y6⟩ := y
  obtain ⟨a, h1, h2, e1⟩ := gi_ex (gXs E (Int32.toNatClampNeg (y5 + gi 1)))
  obtain ⟨o, c2, nx, hh, hS, _⟩ := id hR.1
  refine s_L_law_1345 ?_
  rw [e1]
  refine ⟨y1, ⟨by omega, by omega⟩, ?_⟩
  refine w_generators (c_generators h1 h2 hS) (eM_le (fun f => by (try dsimp only); (repeat' split) <;> first | omega | exact fre_le) (by decide)) _ _ fun I1 J1 q1 j1 v1 => ?_
  refine And.intro y1 ?_
  refine m_generators h1 h2 (hS.j6 q1 j1) _ _ fun I2 J2 q2 j2 g2 r2 v2 => ?_
  refine lt_ok (r := Int32.toInt64 r2) (eM_le (fun f => by (try dsimp only); (repeat' split) <;> first | omega | exact fre_le) (by decide)) g2 (fun z => ?_) (k _ _ _ (hR.q (q1.tr q2) (j1.tr j2.j6)) _ _ (by omega) (by omega))
  rw [j2.l46, v1 z]
  exact congrArg Int32.toInt64 (vint (v2 z))
theorem w_generator {r : Int32} (h : Cl E 75 [.inr (3, 0, 0), .inl (.int (gi a)), .inl (.int (gi b)), .inl (.int (gi d)), .inl (.int x)] I J B e (.inl (.int r))) (he : e ≤ 2) : Cw E 271 [.inr (3, 0, 0), .inl (.int (gi a)), .inl (.int (gi b)), .inl (.int (gi d)), .inl (.int x), .inr (46, 0, 0)] I J B e 46 (Int32.toInt64 r) :=
  fun Q X k => e_L_generator ⟨⟨by decide, by decide⟩, h.w 2 he (by decide) (fun _ _ _ h => h) (fun _ _ _ h => h) (fun z => absurd z (by decide)) k⟩
theorem k_generator (hR : Rl I J B) (y : Ly E y5) (hc : c + 12 ≤ 601024) (hw : w + 172 ≤ 7293034) (k : Kx E Q X y5 c w) : gG E 313 1401 (lls y5) [] I J B c w Q X := by
  obtain ⟨y1, y2, y3, y4, y6⟩ := y
  obtain ⟨a, h1, h2, e1⟩ := gi_ex (gXs E (Int32.toNatClampNeg (y5 + gi 1)))
  obtain ⟨b, h3, h4, e2⟩ := gi_ex (gXs E (Int32.toNatClampNeg (y5 + gi 2)))
  obtain ⟨d, h5, h6, e3⟩ := gi_ex (gXs E (Int32.toNatClampNeg (y5 + gi 3)))
  obtain ⟨o, c2, nx, hh, hS, _⟩ := id hR.1
  refine s_L_law_1401 ?_
  rw [e1, e2, e3]
  by_cases hx : gXs E (Int32.toNatClampNeg (y5 + gi 4)) = gi 0
  · refine ⟨y1, y2, y3, y4, fun _ => ⟨⟨by omega, by omega⟩, ?_⟩, fun z => absurd hx z⟩
    refine w_generator (c_generator h1 h2 h3 h4 h5 h6 hS) (eM_le (fun f => by (try dsimp only); (repeat' split) <;> first | omega | exact fre_le) (by decide)) _ _ fun I1 J1 q1 j1 v1 => ?_
    refine And.intro y1 (And.intro y2 (And.intro y3 (And.intro y4 (And.intro (fun _ => ?_) (fun z => absurd hx z)))))
    refine m_generator h1 h2 h3 h4 h5 h6 (hS.j6 q1 j1) _ _ fun I2 J2 q2 j2 g2 r2 v2 => ?_
    refine lt_ok (r := Int32.toInt64 r2) (eM_le (fun f => by (try dsimp only); (repeat' split) <;> first | omega | exact fre_le) (by decide)) g2 (fun z => ?_) (k _ _ _ (hR.q (q1.tr q2) (j1.tr j2.j6)) _ _ (by omega) (by omega))
    rw [j2.l46, v1 z]
    exact congrArg Int32.toInt64 (vint (v2 z))
  · refine ⟨y1, y2, y3, y4, fun z => absurd z hx, fun _ => ⟨⟨by omega, by omega⟩, ?_⟩⟩
    refine w_generator (c_generator h1 h2 h3 h4 h5 h6 hS) (eM_le (fun f => by (try dsimp only); (repeat' split) <;> first | omega | exact fre_le) (by decide)) _ _ fun I1 J1 q1 j1 v1 => ?_
    refine And.intro y1 (And.intro y2 (And.intro y3 (And.intro y4 (And.intro (fun z => absurd z hx) (fun _ => ?_)))))
    refine m_generator h1 h2 h3 h4 h5 h6 (hS.j6 q1 j1) _ _ fun I2 J2 q2 j2 g2 r2 v2 => ?_
    refine lt_ok (r := Int32.toInt64 r2) (eM_le (fun f => by (try dsimp only); (repeat' split) <;> first | omega | exact fre_le) (by decide)) g2 (fun z => ?_) (k _ _ _ (hR.q (q1.tr q2) (j1.tr j2.j6)) _ _ (by omega) (by omega))
    rw [j2.l46, v1 z]
    exact congrArg Int32.toInt64 (vint (v2 z))
theorem w_mostGenerators {r : Int32} (h : Cl E 76 [.inr (3, 0, 0)] I J B e (.inl (.int r))) (he : e ≤ 1) : Cw E 272 [.inr (3, 0, 0), .inr (46, 0, 0)] I J B e 46 (Int32.toInt64 r) :=
  fun Q X k => e_L_mostGenerators ⟨⟨by decide, by decide⟩, h.w 1 he (by decide) (fun _ _ _ h => h) (fun z => absurd z (by decide)) (fun z => absurd z (by decide)) k⟩
theorem k_mostGenerators (hR : Rl I J B) (y : Ly E y5) (hc : c + 12 ≤ 601024) (hw : w + 172 ≤ 7293034) (k : Kx E Q X y5 c w) : gG E 313 1509 (lls y5) [] I J B c w Q X := by
  obtain ⟨y1, y2, y3, y4, y6⟩ := y
  obtain ⟨o, c2, nx, hh, hS, _⟩ := id hR.1
  refine s_L_law_1509 ?_
  refine ⟨⟨by omega, by omega⟩, ?_⟩
  refine w_mostGenerators (c_mostGenerators hS) (eM_le (fun f => by (try dsimp only); (repeat' split) <;> first | omega | exact fre_le) (by decide)) _ _ fun I1 J1 q1 j1 v1 => ?_
  refine m_mostGenerators (hS.j6 q1 j1) _ _ fun I2 J2 q2 j2 g2 r2 v2 => ?_
  refine lt_ok (r := Int32.toInt64 r2) (eM_le (fun f => by (try dsimp only); (repeat' split) <;> first | omega | exact fre_le) (by decide)) g2 (fun z => ?_) (k _ _ _ (hR.q (q1.tr q2) (j1.tr j2.j6)) _ _ (by omega) (by omega))
  rw [j2.l46, v1 z]
  exact congrArg Int32.toInt64 (vint (v2 z))
theorem w_solution {r : Int32} (h : Cl E 77 [.inr (3, 0, 0), .inl (.int (gi a))] I J B e (.inl (.int r))) (he : e ≤ 3) : Cw E 273 [.inr (3, 0, 0), .inl (.int (gi a)), .inr (46, 0, 0)] I J B e 46 (Int32.toInt64 r) :=
  fun Q X k => e_L_solution ⟨⟨by decide, by decide⟩, h.w 3 he (by decide) (fun _ _ _ h => h) (fun _ _ _ h => h) (fun _ _ _ h => h) k⟩
theorem k_solution (hR : Rl I J B) (y : Ly E y5) (hc : c + 12 ≤ 601024) (hw : w + 172 ≤ 7293034) (k : Kx E Q X y5 c w) : gG E 313 1553 (lls y5) [] I J B c w Q X := by
  obtain ⟨y1, y2, y3, y4, y6⟩ := y
  obtain ⟨a, h1, h2, e1⟩ := gi_ex (gXs E (Int32.toNatClampNeg (y5 + gi 1)))
  obtain ⟨o, c2, nx, hh, hS, _⟩ := id hR.1
  refine s_L_law_1553 ?_
  rw [e1]
  refine ⟨y1, ⟨by omega, by omega⟩, ?_⟩
  refine w_solution (c_solution h1 h2 hS) (eM_le (fun f => by (try dsimp only); (repeat' split) <;> first | omega | exact fre_le) (by decide)) _ _ fun I1 J1 q1 j1 v1 => ?_
  refine And.intro y1 ?_
  refine m_solution h1 h2 (hS.j6 q1 j1) _ _ fun I2 J2 q2 j2 g2 r2 v2 => ?_
  refine lt_ok (r := Int32.toInt64 r2) (eM_le (fun f => by (try dsimp only); (repeat' split) <;> first | omega | exact fre_le) (by decide)) g2 (fun z => ?_) (k _ _ _ (hR.q (q1.tr q2) (j1.tr j2.j6)) _ _ (by omega) (by omega))
  rw [j2.l46, v1 z]
  exact congrArg Int32.toInt64 (vint (v2 z))
theorem w_inverse {r : Int32} (h : Cl E 78 [.inr (3, 0, 0), .inl (.int (gi a)), .inl (.int (gi b))] I J B e (.inl (.int r))) (he : e ≤ 3) : Cw E 274 [.inr (3, 0, 0), .inl (.int (gi a)), .inl (.int (gi b)), .inr (46, 0, 0)] I J B e 46 (Int32.toInt64 r) :=
  fun Q X k => e_L_inverse ⟨⟨by decide, by decide⟩, h.w 3 he (by decide) (fun _ _ _ h => h) (fun _ _ _ h => h) (fun _ _ _ h => h) k⟩
theorem k_inverse (hR : Rl I J B) (y : Ly E y5) (hc : c + 12 ≤ 601024) (hw : w + 172 ≤ 7293034) (k : Kx E Q X y5 c w) : gG E 313 1609 (lls y5) [] I J B c w Q X := by
  obtain ⟨y1, y2, y3, y4, y6⟩ := y
  obtain ⟨a, h1, h2, e1⟩ := gi_ex (gXs E (Int32.toNatClampNeg (y5 + gi 1)))
  obtain ⟨b, h3, h4, e2⟩ := gi_ex (gXs E (Int32.toNatClampNeg (y5 + gi 2)))
  obtain ⟨o, c2, nx, hh, hS, _⟩ := id hR.1
  refine s_L_law_1609 ?_
  rw [e1, e2]
  refine ⟨y1, y2, ⟨by omega, by omega⟩, ?_⟩
  refine w_inverse (c_inverse h1 h2 h3 h4 hS) (eM_le (fun f => by (try dsimp only); (repeat' split) <;> first | omega | exact fre_le) (by decide)) _ _ fun I1 J1 q1 j1 v1 => ?_
  refine And.intro y1 (And.intro y2 ?_)
  refine m_inverse h1 h2 h3 h4 (hS.j6 q1 j1) _ _ fun I2 J2 q2 j2 g2 r2 v2 => ?_
  refine lt_ok (r := Int32.toInt64 r2) (eM_le (fun f => by (try dsimp only); (repeat' split) <;> first | omega | exact fre_le) (by decide)) g2 (fun z => ?_) (k _ _ _ (hR.q (q1.tr q2) (j1.tr j2.j6)) _ _ (by omega) (by omega))
  rw [j2.l46, v1 z]
  exact congrArg Int32.toInt64 (vint (v2 z))
theorem w_kernel {r : Int32} (h : Cl E 79 [.inr (3, 0, 0), .inl (.int (gi a))] I J B e (.inl (.int r))) (he : e ≤ 3) : Cw E 275 [.inr (3, 0, 0), .inl (.int (gi a)), .inr (46, 0, 0)] I J B e 46 (Int32.toInt64 r) :=
  fun Q X k => e_L_kernel ⟨⟨by decide, by decide⟩, h.w 3 he (by decide) (fun _ _ _ h => h) (fun _ _ _ h => h) (fun _ _ _ h => h) k⟩
theorem k_kernel (hR : Rl I J B) (y : Ly E y5) (hc : c + 12 ≤ 601024) (hw : w + 172 ≤ 7293034) (k : Kx E Q X y5 c w) : gG E 313 1677 (lls y5) [] I J B c w Q X := by
  obtain ⟨y1, y2, y3, y4, y6⟩ := y
  obtain ⟨a, h1, h2, e1⟩ := gi_ex (gXs E (Int32.toNatClampNeg (y5 + gi 1)))
  obtain ⟨o, c2, nx, hh, hS, _⟩ := id hR.1
  refine s_L_law_1677 ?_
  rw [e1]
  refine ⟨y1, ⟨by omega, by omega⟩, ?_⟩
  refine w_kernel (c_kernel h1 h2 hS) (eM_le (fun f => by (try dsimp only); (repeat' split) <;> first | omega | exact fre_le) (by decide)) _ _ fun I1 J1 q1 j1 v1 => ?_
  refine And.intro y1 ?_
  refine m_kernel h1 h2 (hS.j6 q1 j1) _ _ fun I2 J2 q2 j2 g2 r2 v2 => ?_
  refine lt_ok (r := Int32.toInt64 r2) (eM_le (fun f => by (try dsimp only); (repeat' split) <;> first | omega | exact fre_le) (by decide)) g2 (fun z => ?_) (k _ _ _ (hR.q (q1.tr q2) (j1.tr j2.j6)) _ _ (by omega) (by omega))
  rw [j2.l46, v1 z]
  exact congrArg Int32.toInt64 (vint (v2 z))
theorem w_isSolvable {r : Int32} (h : Cl E 80 [.inr (3, 0, 0)] I J B e (.inl (.int r))) (he : e ≤ 1) : Cw E 276 [.inr (3, 0, 0), .inr (46, 0, 0)] I J B e 46 (if r = gi 0 then gj 0 else gj 1) :=
  fun Q X k => e_L_isSolvable ⟨⟨by decide, by decide⟩, h.wb 1 he (by decide) (fun _ _ _ h => h) (fun z => absurd z (by decide)) (fun z => absurd z (by decide)) k⟩
theorem k_isSolvable (hR : Rl I J B) (y : Ly E y5) (hc : c + 12 ≤ 601024) (hw : w + 172 ≤ 7293034) (k : Kx E Q X y5 c w) : gG E 313 1733 (lls y5) [] I J B c w Q X := by
  obtain ⟨y1, y2, y3, y4, y6⟩ := y
  obtain ⟨o, c2, nx, hh, hS, _⟩ := id hR.1
  refine s_L_law_1733 ?_
  refine ⟨⟨by omega, by omega⟩, ?_⟩
  refine w_isSolvable (c_isSolvable hS) (eM_le (fun f => by (try dsimp only); (repeat' split) <;> first | omega | exact fre_le) (by decide)) _ _ fun I1 J1 q1 j1 v1 => ?_
  refine m_isSolvable (hS.j6 q1 j1) _ _ fun I2 J2 q2 j2 g2 r2 v2 => ?_
  refine lt_okb (r := r2) (eM_le (fun f => by (try dsimp only); (repeat' split) <;> first | omega | exact fre_le) (by decide)) g2 (fun z => ?_) (k _ _ _ (hR.q (q1.tr q2) (j1.tr j2.j6)) _ _ (by omega) (by omega))
  rw [j2.l46, v1 z, vint (v2 z)]
theorem w_digits {r : Int32} (h : Cl E 81 [.inr (3, 0, 0)] I J B e (.inl (.int r))) (he : e ≤ 1) : Cw E 277 [.inr (3, 0, 0), .inr (46, 0, 0)] I J B e 46 (Int32.toInt64 r) :=
  fun Q X k => e_L_digits ⟨⟨by decide, by decide⟩, h.w 1 he (by decide) (fun _ _ _ h => h) (fun z => absurd z (by decide)) (fun z => absurd z (by decide)) k⟩
theorem k_digits (hR : Rl I J B) (y : Ly E y5) (hc : c + 12 ≤ 601024) (hw : w + 172 ≤ 7293034) (k : Kx E Q X y5 c w) : gG E 313 1784 (lls y5) [] I J B c w Q X := by
  obtain ⟨y1, y2, y3, y4, y6⟩ := y
  obtain ⟨o, c2, nx, hh, hS, _⟩ := id hR.1
  refine s_L_law_1784 ?_
  refine ⟨⟨by omega, by omega⟩, ?_⟩
  refine w_digits (c_digits hS) (eM_le (fun f => by (try dsimp only); (repeat' split) <;> first | omega | exact fre_le) (by decide)) _ _ fun I1 J1 q1 j1 v1 => ?_
  refine m_digits (hS.j6 q1 j1) _ _ fun I2 J2 q2 j2 g2 r2 v2 => ?_
  refine lt_ok (r := Int32.toInt64 r2) (eM_le (fun f => by (try dsimp only); (repeat' split) <;> first | omega | exact fre_le) (by decide)) g2 (fun z => ?_) (k _ _ _ (hR.q (q1.tr q2) (j1.tr j2.j6)) _ _ (by omega) (by omega))
  rw [j2.l46, v1 z]
  exact congrArg Int32.toInt64 (vint (v2 z))
theorem w_mostDigits {r : Int32} (h : Cl E 82 [.inr (3, 0, 0)] I J B e (.inl (.int r))) (he : e ≤ 1) : Cw E 278 [.inr (3, 0, 0), .inr (46, 0, 0)] I J B e 46 (Int32.toInt64 r) :=
  fun Q X k => e_L_mostDigits ⟨⟨by decide, by decide⟩, h.w 1 he (by decide) (fun _ _ _ h => h) (fun z => absurd z (by decide)) (fun z => absurd z (by decide)) k⟩
theorem k_mostDigits (hR : Rl I J B) (y : Ly E y5) (hc : c + 12 ≤ 601024) (hw : w + 172 ≤ 7293034) (k : Kx E Q X y5 c w) : gG E 313 1828 (lls y5) [] I J B c w Q X := by
  obtain ⟨y1, y2, y3, y4, y6⟩ := y
  obtain ⟨o, c2, nx, hh, hS, _⟩ := id hR.1
  refine s_L_law_1828 ?_
  refine ⟨⟨by omega, by omega⟩, ?_⟩
  refine w_mostDigits (c_mostDigits hS) (eM_le (fun f => by (try dsimp only); (repeat' split) <;> first | omega | exact fre_le) (by decide)) _ _ fun I1 J1 q1 j1 v1 => ?_
  refine m_mostDigits (hS.j6 q1 j1) _ _ fun I2 J2 q2 j2 g2 r2 v2 => ?_
  refine lt_ok (r := Int32.toInt64 r2) (eM_le (fun f => by (try dsimp only); (repeat' split) <;> first | omega | exact fre_le) (by decide)) g2 (fun z => ?_) (k _ _ _ (hR.q (q1.tr q2) (j1.tr j2.j6)) _ _ (by omega) (by omega))
  rw [j2.l46, v1 z]
  exact congrArg Int32.toInt64 (vint (v2 z))
theorem w_digit {r : Int32} (h : Cl E 83 [.inr (3, 0, 0), .inl (.int (gi a)), .inl (.int (gi b))] I J B e (.inl (.int r))) (he : e ≤ 2) : Cw E 279 [.inr (3, 0, 0), .inl (.int (gi a)), .inl (.int (gi b)), .inr (46, 0, 0)] I J B e 46 (Int32.toInt64 r) :=
  fun Q X k => e_L_digit ⟨⟨by decide, by decide⟩, h.w 2 he (by decide) (fun _ _ _ h => h) (fun _ _ _ h => h) (fun z => absurd z (by decide)) k⟩
theorem k_digit (hR : Rl I J B) (y : Ly E y5) (hc : c + 12 ≤ 601024) (hw : w + 172 ≤ 7293034) (k : Kx E Q X y5 c w) : gG E 313 1872 (lls y5) [] I J B c w Q X := by
  obtain ⟨y1, y2, y3, y4, y6⟩ := y
  obtain ⟨a, h1, h2, e1⟩ := gi_ex (gXs E (Int32.toNatClampNeg (y5 + gi 1)))
  obtain ⟨b, h3, h4, e2⟩ := gi_ex (gXs E (Int32.toNatClampNeg (y5 + gi 2)))
  obtain ⟨o, c2, nx, hh, hS, _⟩ := id hR.1
  refine s_L_law_1872 ?_
  rw [e1, e2]
  refine ⟨y1, y2, ⟨by omega, by omega⟩, ?_⟩
  refine w_digit (c_digit h1 h2 h3 h4 hS) (eM_le (fun f => by (try dsimp only); (repeat' split) <;> first | omega | exact fre_le) (by decide)) _ _ fun I1 J1 q1 j1 v1 => ?_
  refine And.intro y1 (And.intro y2 ?_)
  refine m_digit h1 h2 h3 h4 (hS.j6 q1 j1) _ _ fun I2 J2 q2 j2 g2 r2 v2 => ?_
  refine lt_ok (r := Int32.toInt64 r2) (eM_le (fun f => by (try dsimp only); (repeat' split) <;> first | omega | exact fre_le) (by decide)) g2 (fun z => ?_) (k _ _ _ (hR.q (q1.tr q2) (j1.tr j2.j6)) _ _ (by omega) (by omega))
  rw [j2.l46, v1 z]
  exact congrArg Int32.toInt64 (vint (v2 z))
theorem w_residual {r : Int32} (h : Cl E 84 [.inr (3, 0, 0), .inl (.int (gi a))] I J B e (.inl (.int r))) (he : e ≤ 2) : Cw E 280 [.inr (3, 0, 0), .inl (.int (gi a)), .inr (46, 0, 0)] I J B e 46 (Int32.toInt64 r) :=
  fun Q X k => e_L_residual ⟨⟨by decide, by decide⟩, h.w 2 he (by decide) (fun _ _ _ h => h) (fun _ _ _ h => h) (fun z => absurd z (by decide)) k⟩
theorem k_residual (hR : Rl I J B) (y : Ly E y5) (hc : c + 12 ≤ 601024) (hw : w + 172 ≤ 7293034) (k : Kx E Q X y5 c w) : gG E 313 1940 (lls y5) [] I J B c w Q X := by
  obtain ⟨y1, y2, y3, y4, y6⟩ := y
  obtain ⟨a, h1, h2, e1⟩ := gi_ex (gXs E (Int32.toNatClampNeg (y5 + gi 1)))
  obtain ⟨o, c2, nx, hh, hS, _⟩ := id hR.1
  refine s_L_law_1940 ?_
  rw [e1]
  refine ⟨y1, ⟨by omega, by omega⟩, ?_⟩
  refine w_residual (c_residual h1 h2 hS) (eM_le (fun f => by (try dsimp only); (repeat' split) <;> first | omega | exact fre_le) (by decide)) _ _ fun I1 J1 q1 j1 v1 => ?_
  refine And.intro y1 ?_
  refine m_residual h1 h2 (hS.j6 q1 j1) _ _ fun I2 J2 q2 j2 g2 r2 v2 => ?_
  refine lt_ok (r := Int32.toInt64 r2) (eM_le (fun f => by (try dsimp only); (repeat' split) <;> first | omega | exact fre_le) (by decide)) g2 (fun z => ?_) (k _ _ _ (hR.q (q1.tr q2) (j1.tr j2.j6)) _ _ (by omega) (by omega))
  rw [j2.l46, v1 z]
  exact congrArg Int32.toInt64 (vint (v2 z))
theorem w_value {r : Int64} (h : Cl E 85 [.inr (3, 0, 0), .inl (.int (gi a))] I J B e (.inl (.long r))) (he : e ≤ 2) : Cw E 281 [.inr (3, 0, 0), .inl (.int (gi a)), .inr (46, 0, 0)] I J B e 46 r :=
  fun Q X k => e_L_value ⟨⟨by decide, by decide⟩, h.wl 2 he (by decide) (fun _ _ _ h => h) (fun _ _ _ h => h) (fun z => absurd z (by decide)) k⟩
theorem k_value (hR : Rl I J B) (y : Ly E y5) (hc : c + 12 ≤ 601024) (hw : w + 172 ≤ 7293034) (k : Kx E Q X y5 c w) : gG E 313 1996 (lls y5) [] I J B c w Q X := by
  obtain ⟨y1, y2, y3, y4, y6⟩ := y
  obtain ⟨a, h1, h2, e1⟩ := gi_ex (gXs E (Int32.toNatClampNeg (y5 + gi 1)))
  obtain ⟨o, c2, nx, hh, hS, _⟩ := id hR.1
  refine s_L_law_1996 ?_
  rw [e1]
  refine ⟨y1, ⟨by omega, by omega⟩, ?_⟩
  refine w_value (c_value h1 h2 hS) (eM_le (fun f => by (try dsimp only); (repeat' split) <;> first | omega | exact fre_le) (by decide)) _ _ fun I1 J1 q1 j1 v1 => ?_
  refine And.intro y1 ?_
  refine m_value h1 h2 (hS.j6 q1 j1) _ _ fun I2 J2 q2 j2 g2 r2 v2 => ?_
  refine lt_ok (r := r2) (eM_le (fun f => by (try dsimp only); (repeat' split) <;> first | omega | exact fre_le) (by decide)) g2 (fun z => ?_) (k _ _ _ (hR.q (q1.tr q2) (j1.tr j2.j6)) _ _ (by omega) (by omega))
  rw [j2.l46, v1 z]
  exact v2 z
theorem w_centred {r : Int64} (h : Cl E 86 [.inr (3, 0, 0), .inl (.int (gi a))] I J B e (.inl (.long r))) (he : e ≤ 2) : Cw E 282 [.inr (3, 0, 0), .inl (.int (gi a)), .inr (46, 0, 0)] I J B e 46 r :=
  fun Q X k => e_L_centred ⟨⟨by decide, by decide⟩, h.wl 2 he (by decide) (fun _ _ _ h => h) (fun _ _ _ h => h) (fun z => absurd z (by decide)) k⟩
theorem k_centred (hR : Rl I J B) (y : Ly E y5) (hc : c + 12 ≤ 601024) (hw : w + 172 ≤ 7293034) (k : Kx E Q X y5 c w) : gG E 313 2051 (lls y5) [] I J B c w Q X := by
  obtain ⟨y1, y2, y3, y4, y6⟩ := y
  obtain ⟨a, h1, h2, e1⟩ := gi_ex (gXs E (Int32.toNatClampNeg (y5 + gi 1)))
  obtain ⟨o, c2, nx, hh, hS, _⟩ := id hR.1
  refine s_L_law_2051 ?_
  rw [e1]
  refine ⟨y1, ⟨by omega, by omega⟩, ?_⟩
  refine w_centred (c_centred h1 h2 hS) (eM_le (fun f => by (try dsimp only); (repeat' split) <;> first | omega | exact fre_le) (by decide)) _ _ fun I1 J1 q1 j1 v1 => ?_
  refine And.intro y1 ?_
  refine m_centred h1 h2 (hS.j6 q1 j1) _ _ fun I2 J2 q2 j2 g2 r2 v2 => ?_
  refine lt_ok (r := r2) (eM_le (fun f => by (try dsimp only); (repeat' split) <;> first | omega | exact fre_le) (by decide)) g2 (fun z => ?_) (k _ _ _ (hR.q (q1.tr q2) (j1.tr j2.j6)) _ _ (by omega) (by omega))
  rw [j2.l46, v1 z]
  exact v2 z
theorem w_numerator {r : Int32} (h : Cl E 87 [.inr (3, 0, 0), .inl (.int (gi a))] I J B e (.inl (.int r))) (he : e ≤ 3) : Cw E 283 [.inr (3, 0, 0), .inl (.int (gi a)), .inr (46, 0, 0)] I J B e 46 (Int32.toInt64 r) :=
  fun Q X k => e_L_numerator ⟨⟨by decide, by decide⟩, h.w 3 he (by decide) (fun _ _ _ h => h) (fun _ _ _ h => h) (fun _ _ _ h => h) k⟩
theorem k_numerator (hR : Rl I J B) (y : Ly E y5) (hc : c + 12 ≤ 601024) (hw : w + 172 ≤ 7293034) (k : Kx E Q X y5 c w) : gG E 313 2106 (lls y5) [] I J B c w Q X := by
  obtain ⟨y1, y2, y3, y4, y6⟩ := y
  obtain ⟨a, h1, h2, e1⟩ := gi_ex (gXs E (Int32.toNatClampNeg (y5 + gi 1)))
  obtain ⟨o, c2, nx, hh, hS, _⟩ := id hR.1
  refine s_L_law_2106 ?_
  rw [e1]
  refine ⟨y1, ⟨by omega, by omega⟩, ?_⟩
  refine w_numerator (c_numerator h1 h2 hS) (eM_le (fun f => by (try dsimp only); (repeat' split) <;> first | omega | exact fre_le) (by decide)) _ _ fun I1 J1 q1 j1 v1 => ?_
  refine And.intro y1 ?_
  refine m_numerator h1 h2 (hS.j6 q1 j1) _ _ fun I2 J2 q2 j2 g2 r2 v2 => ?_
  refine lt_ok (r := Int32.toInt64 r2) (eM_le (fun f => by (try dsimp only); (repeat' split) <;> first | omega | exact fre_le) (by decide)) g2 (fun z => ?_) (k _ _ _ (hR.q (q1.tr q2) (j1.tr j2.j6)) _ _ (by omega) (by omega))
  rw [j2.l46, v1 z]
  exact congrArg Int32.toInt64 (vint (v2 z))
theorem w_denominator {r : Int32} (h : Cl E 88 [.inr (3, 0, 0), .inl (.int (gi a))] I J B e (.inl (.int r))) (he : e ≤ 2) : Cw E 284 [.inr (3, 0, 0), .inl (.int (gi a)), .inr (46, 0, 0)] I J B e 46 (Int32.toInt64 r) :=
  fun Q X k => e_L_denominator ⟨⟨by decide, by decide⟩, h.w 2 he (by decide) (fun _ _ _ h => h) (fun _ _ _ h => h) (fun z => absurd z (by decide)) k⟩
theorem k_denominator (hR : Rl I J B) (y : Ly E y5) (hc : c + 12 ≤ 601024) (hw : w + 172 ≤ 7293034) (k : Kx E Q X y5 c w) : gG E 313 2162 (lls y5) [] I J B c w Q X := by
  obtain ⟨y1, y2, y3, y4, y6⟩ := y
  obtain ⟨a, h1, h2, e1⟩ := gi_ex (gXs E (Int32.toNatClampNeg (y5 + gi 1)))
  obtain ⟨o, c2, nx, hh, hS, _⟩ := id hR.1
  refine s_L_law_2162 ?_
  rw [e1]
  refine ⟨y1, ⟨by omega, by omega⟩, ?_⟩
  refine w_denominator (c_denominator h1 h2 hS) (eM_le (fun f => by (try dsimp only); (repeat' split) <;> first | omega | exact fre_le) (by decide)) _ _ fun I1 J1 q1 j1 v1 => ?_
  refine And.intro y1 ?_
  refine m_denominator h1 h2 (hS.j6 q1 j1) _ _ fun I2 J2 q2 j2 g2 r2 v2 => ?_
  refine lt_ok (r := Int32.toInt64 r2) (eM_le (fun f => by (try dsimp only); (repeat' split) <;> first | omega | exact fre_le) (by decide)) g2 (fun z => ?_) (k _ _ _ (hR.q (q1.tr q2) (j1.tr j2.j6)) _ _ (by omega) (by omega))
  rw [j2.l46, v1 z]
  exact congrArg Int32.toInt64 (vint (v2 z))
theorem w_quotient {r : UInt64} (h : Cl E 89 [.inr (3, 0, 0), .inl (.int (gi a))] I J B e (.inl (.double r))) (he : e ≤ 3) : Cw E 285 [.inr (3, 0, 0), .inl (.int (gi a)), .inr (47, 0, 0)] I J B e 47 (UInt64.toInt64 r) :=
  fun Q X k => e_L_quotient ⟨⟨by decide, by decide⟩, h.wd 3 he (by decide) (fun _ _ _ h => h) (fun _ _ _ h => h) (fun _ _ _ h => h) k⟩
theorem k_quotient (hR : Rl I J B) (y : Ly E y5) (hc : c + 12 ≤ 601024) (hw : w + 172 ≤ 7293034) (k : Kx E Q X y5 c w) : gG E 313 2218 (lls y5) [] I J B c w Q X := by
  obtain ⟨y1, y2, y3, y4, y6⟩ := y
  obtain ⟨a, h1, h2, e1⟩ := gi_ex (gXs E (Int32.toNatClampNeg (y5 + gi 1)))
  obtain ⟨o, c2, nx, hh, hS, _⟩ := id hR.1
  refine s_L_law_2218 ?_
  rw [e1]
  refine ⟨y1, ⟨by omega, by omega⟩, ?_⟩
  refine w_quotient (c_quotient h1 h2 hS) (eM_le (fun f => by (try dsimp only); (repeat' split) <;> first | omega | exact fre_le) (by decide)) _ _ fun I1 J1 q1 j1 v1 => ?_
  refine And.intro y1 ?_
  refine m_quotient h1 h2 (hS.j6 q1 j1) _ _ fun I2 J2 q2 j2 g2 r2 v2 => ?_
  refine lt_okd (r := r2) (eM_le (fun f => by (try dsimp only); (repeat' split) <;> first | omega | exact fre_le) (by decide)) g2 (fun z => ?_) (k _ _ _ (hR.q (q1.tr q2) (j1.tr j2.j6)) _ _ (by omega) (by omega))
  rw [j2.l47, v1 z]
  exact congrArg UInt64.toInt64 (v2 z)
theorem w_isExact {r : Int32} (h : Cl E 90 [.inr (3, 0, 0)] I J B e (.inl (.int r))) (he : e ≤ 1) : Cw E 286 [.inr (3, 0, 0), .inr (46, 0, 0)] I J B e 46 (if r = gi 0 then gj 0 else gj 1) :=
  fun Q X k => e_L_isExact ⟨⟨by decide, by decide⟩, h.wb 1 he (by decide) (fun _ _ _ h => h) (fun z => absurd z (by decide)) (fun z => absurd z (by decide)) k⟩
theorem k_isExact (hR : Rl I J B) (y : Ly E y5) (hc : c + 12 ≤ 601024) (hw : w + 172 ≤ 7293034) (k : Kx E Q X y5 c w) : gG E 313 2295 (lls y5) [] I J B c w Q X := by
  obtain ⟨y1, y2, y3, y4, y6⟩ := y
  obtain ⟨o, c2, nx, hh, hS, _⟩ := id hR.1
  refine s_L_law_2295 ?_
  refine ⟨⟨by omega, by omega⟩, ?_⟩
  refine w_isExact (c_isExact hS) (eM_le (fun f => by (try dsimp only); (repeat' split) <;> first | omega | exact fre_le) (by decide)) _ _ fun I1 J1 q1 j1 v1 => ?_
  refine m_isExact (hS.j6 q1 j1) _ _ fun I2 J2 q2 j2 g2 r2 v2 => ?_
  refine lt_okb (r := r2) (eM_le (fun f => by (try dsimp only); (repeat' split) <;> first | omega | exact fre_le) (by decide)) g2 (fun z => ?_) (k _ _ _ (hR.q (q1.tr q2) (j1.tr j2.j6)) _ _ (by omega) (by omega))
  rw [j2.l46, v1 z, vint (v2 z)]
theorem w_liftsTo {r : Int32} (h : Cl E 91 [.inr (3, 0, 0)] I J B e (.inl (.int r))) (he : e ≤ 1) : Cw E 287 [.inr (3, 0, 0), .inr (46, 0, 0)] I J B e 46 (Int32.toInt64 r) :=
  fun Q X k => e_L_liftsTo ⟨⟨by decide, by decide⟩, h.w 1 he (by decide) (fun _ _ _ h => h) (fun z => absurd z (by decide)) (fun z => absurd z (by decide)) k⟩
theorem k_liftsTo (hR : Rl I J B) (y : Ly E y5) (hc : c + 12 ≤ 601024) (hw : w + 172 ≤ 7293034) (k : Kx E Q X y5 c w) : gG E 313 2346 (lls y5) [] I J B c w Q X := by
  obtain ⟨y1, y2, y3, y4, y6⟩ := y
  obtain ⟨o, c2, nx, hh, hS, _⟩ := id hR.1
  refine s_L_law_2346 ?_
  refine ⟨⟨by omega, by omega⟩, ?_⟩
  refine w_liftsTo (c_liftsTo hS) (eM_le (fun f => by (try dsimp only); (repeat' split) <;> first | omega | exact fre_le) (by decide)) _ _ fun I1 J1 q1 j1 v1 => ?_
  refine m_liftsTo (hS.j6 q1 j1) _ _ fun I2 J2 q2 j2 g2 r2 v2 => ?_
  refine lt_ok (r := Int32.toInt64 r2) (eM_le (fun f => by (try dsimp only); (repeat' split) <;> first | omega | exact fre_le) (by decide)) g2 (fun z => ?_) (k _ _ _ (hR.q (q1.tr q2) (j1.tr j2.j6)) _ _ (by omega) (by omega))
  rw [j2.l46, v1 z]
  exact congrArg Int32.toInt64 (vint (v2 z))
theorem w_product {r : Int32} (h : Cl E 92 [.inr (3, 0, 0), .inl (.int (gi a))] I J B e (.inl (.int r))) (he : e ≤ 2) : Cw E 288 [.inr (3, 0, 0), .inl (.int (gi a)), .inr (46, 0, 0)] I J B e 46 (Int32.toInt64 r) :=
  fun Q X k => e_L_product ⟨⟨by decide, by decide⟩, h.w 2 he (by decide) (fun _ _ _ h => h) (fun _ _ _ h => h) (fun z => absurd z (by decide)) k⟩
theorem k_product (hR : Rl I J B) (y : Ly E y5) (hc : c + 12 ≤ 601024) (hw : w + 172 ≤ 7293034) (k : Kx E Q X y5 c w) : gG E 313 2390 (lls y5) [] I J B c w Q X := by
  obtain ⟨y1, y2, y3, y4, y6⟩ := y
  obtain ⟨a, h1, h2, e1⟩ := gi_ex (gXs E (Int32.toNatClampNeg (y5 + gi 1)))
  obtain ⟨o, c2, nx, hh, hS, _⟩ := id hR.1
  refine s_L_law_2390 ?_
  rw [e1]
  refine ⟨y1, ⟨by omega, by omega⟩, ?_⟩
  refine w_product (c_product h1 h2 hS) (eM_le (fun f => by (try dsimp only); (repeat' split) <;> first | omega | exact fre_le) (by decide)) _ _ fun I1 J1 q1 j1 v1 => ?_
  refine And.intro y1 ?_
  refine m_product h1 h2 (hS.j6 q1 j1) _ _ fun I2 J2 q2 j2 g2 r2 v2 => ?_
  refine lt_ok (r := Int32.toInt64 r2) (eM_le (fun f => by (try dsimp only); (repeat' split) <;> first | omega | exact fre_le) (by decide)) g2 (fun z => ?_) (k _ _ _ (hR.q (q1.tr q2) (j1.tr j2.j6)) _ _ (by omega) (by omega))
  rw [j2.l46, v1 z]
  exact congrArg Int32.toInt64 (vint (v2 z))
theorem w_circulant {r : Int32} (h : Cl E 93 [.inr (3, 0, 0), .inl (.int (gi a)), .inl (.int (gi b))] I J B e (.inl (.int r))) (he : e ≤ 2) : Cw E 289 [.inr (3, 0, 0), .inl (.int (gi a)), .inl (.int (gi b)), .inr (46, 0, 0)] I J B e 46 (Int32.toInt64 r) :=
  fun Q X k => e_L_circulant ⟨⟨by decide, by decide⟩, h.w 2 he (by decide) (fun _ _ _ h => h) (fun _ _ _ h => h) (fun z => absurd z (by decide)) k⟩
theorem k_circulant (hR : Rl I J B) (y : Ly E y5) (hc : c + 12 ≤ 601024) (hw : w + 172 ≤ 7293034) (k : Kx E Q X y5 c w) : gG E 313 2446 (lls y5) [] I J B c w Q X := by
  obtain ⟨y1, y2, y3, y4, y6⟩ := y
  obtain ⟨a, h1, h2, e1⟩ := gi_ex (gXs E (Int32.toNatClampNeg (y5 + gi 1)))
  obtain ⟨b, h3, h4, e2⟩ := gi_ex (gXs E (Int32.toNatClampNeg (y5 + gi 2)))
  obtain ⟨o, c2, nx, hh, hS, _⟩ := id hR.1
  refine s_L_law_2446 ?_
  rw [e1, e2]
  refine ⟨y1, y2, ⟨by omega, by omega⟩, ?_⟩
  refine w_circulant (c_circulant h1 h2 h3 h4 hS) (eM_le (fun f => by (try dsimp only); (repeat' split) <;> first | omega | exact fre_le) (by decide)) _ _ fun I1 J1 q1 j1 v1 => ?_
  refine And.intro y1 (And.intro y2 ?_)
  refine m_circulant h1 h2 h3 h4 (hS.j6 q1 j1) _ _ fun I2 J2 q2 j2 g2 r2 v2 => ?_
  refine lt_ok (r := Int32.toInt64 r2) (eM_le (fun f => by (try dsimp only); (repeat' split) <;> first | omega | exact fre_le) (by decide)) g2 (fun z => ?_) (k _ _ _ (hR.q (q1.tr q2) (j1.tr j2.j6)) _ _ (by omega) (by omega))
  rw [j2.l46, v1 z]
  exact congrArg Int32.toInt64 (vint (v2 z))
theorem w_wrapped {r : Int32} (h : Cl E 94 [.inr (3, 0, 0), .inl (.int (gi a))] I J B e (.inl (.int r))) (he : e ≤ 2) : Cw E 290 [.inr (3, 0, 0), .inl (.int (gi a)), .inr (46, 0, 0)] I J B e 46 (Int32.toInt64 r) :=
  fun Q X k => e_L_wrapped ⟨⟨by decide, by decide⟩, h.w 2 he (by decide) (fun _ _ _ h => h) (fun _ _ _ h => h) (fun z => absurd z (by decide)) k⟩
theorem k_wrapped (hR : Rl I J B) (y : Ly E y5) (hc : c + 12 ≤ 601024) (hw : w + 172 ≤ 7293034) (k : Kx E Q X y5 c w) : gG E 313 2514 (lls y5) [] I J B c w Q X := by
  obtain ⟨y1, y2, y3, y4, y6⟩ := y
  obtain ⟨a, h1, h2, e1⟩ := gi_ex (gXs E (Int32.toNatClampNeg (y5 + gi 1)))
  obtain ⟨o, c2, nx, hh, hS, _⟩ := id hR.1
  refine s_L_law_2514 ?_
  rw [e1]
  refine ⟨y1, ⟨by omega, by omega⟩, ?_⟩
  refine w_wrapped (c_wrapped h1 h2 hS) (eM_le (fun f => by (try dsimp only); (repeat' split) <;> first | omega | exact fre_le) (by decide)) _ _ fun I1 J1 q1 j1 v1 => ?_
  refine And.intro y1 ?_
  refine m_wrapped h1 h2 (hS.j6 q1 j1) _ _ fun I2 J2 q2 j2 g2 r2 v2 => ?_
  refine lt_ok (r := Int32.toInt64 r2) (eM_le (fun f => by (try dsimp only); (repeat' split) <;> first | omega | exact fre_le) (by decide)) g2 (fun z => ?_) (k _ _ _ (hR.q (q1.tr q2) (j1.tr j2.j6)) _ _ (by omega) (by omega))
  rw [j2.l46, v1 z]
  exact congrArg Int32.toInt64 (vint (v2 z))
theorem w_probeSolves {r : Int32} (h : Cl E 95 [.inr (3, 0, 0)] I J B e (.inl (.int r))) (he : e ≤ 1) : Cw E 291 [.inr (3, 0, 0), .inr (46, 0, 0)] I J B e 46 (if r = gi 0 then gj 0 else gj 1) :=
  fun Q X k => e_L_probeSolves ⟨⟨by decide, by decide⟩, h.wb 1 he (by decide) (fun _ _ _ h => h) (fun z => absurd z (by decide)) (fun z => absurd z (by decide)) k⟩
theorem k_probeSolves (hR : Rl I J B) (y : Ly E y5) (hc : c + 12 ≤ 601024) (hw : w + 172 ≤ 7293034) (k : Kx E Q X y5 c w) : gG E 313 2570 (lls y5) [] I J B c w Q X := by
  obtain ⟨y1, y2, y3, y4, y6⟩ := y
  obtain ⟨o, c2, nx, hh, hS, _⟩ := id hR.1
  refine s_L_law_2570 ?_
  refine ⟨⟨by omega, by omega⟩, ?_⟩
  refine w_probeSolves (c_probeSolves hS) (eM_le (fun f => by (try dsimp only); (repeat' split) <;> first | omega | exact fre_le) (by decide)) _ _ fun I1 J1 q1 j1 v1 => ?_
  refine m_probeSolves (hS.j6 q1 j1) _ _ fun I2 J2 q2 j2 g2 r2 v2 => ?_
  refine lt_okb (r := r2) (eM_le (fun f => by (try dsimp only); (repeat' split) <;> first | omega | exact fre_le) (by decide)) g2 (fun z => ?_) (k _ _ _ (hR.q (q1.tr q2) (j1.tr j2.j6)) _ _ (by omega) (by omega))
  rw [j2.l46, v1 z, vint (v2 z)]
theorem w_accountOf {r : Int32} (h : Cl E 97 [.inr (3, 0, 0), .inl (.int (gi a)), .inl (.int (gi b))] I J B e (.inl (.int r))) (he : e ≤ 3) : Cw E 292 [.inr (3, 0, 0), .inl (.int (gi a)), .inl (.int (gi b)), .inr (46, 0, 0)] I J B e 46 (Int32.toInt64 r) :=
  fun Q X k => e_L_accountOf ⟨⟨by decide, by decide⟩, h.w 3 he (by decide) (fun _ _ _ h => h) (fun _ _ _ h => h) (fun _ _ _ h => h) k⟩
theorem k_accountOf (hR : Rl I J B) (y : Ly E y5) (hc : c + 12 ≤ 601024) (hw : w + 172 ≤ 7293034) (k : Kx E Q X y5 c w) : gG E 313 2634 (lls y5) [] I J B c w Q X := by
  obtain ⟨y1, y2, y3, y4, y6⟩ := y
  obtain ⟨a, h1, h2, e1⟩ := gi_ex (gXs E (Int32.toNatClampNeg (y5 + gi 1)))
  obtain ⟨b, h3, h4, e2⟩ := gi_ex (gXs E (Int32.toNatClampNeg (y5 + gi 2)))
  obtain ⟨o, c2, nx, hh, hS, _⟩ := id hR.1
  refine s_L_law_2634 ?_
  rw [e1, e2]
  refine ⟨y1, y2, ⟨by omega, by omega⟩, ?_⟩
  refine w_accountOf (c_accountOf h1 h2 h3 h4 hS) (eM_le (fun f => by (try dsimp only); (repeat' split) <;> first | omega | exact fre_le) (by decide)) _ _ fun I1 J1 q1 j1 v1 => ?_
  refine And.intro y1 (And.intro y2 ?_)
  refine m_accountOf h1 h2 h3 h4 (hS.j6 q1 j1) _ _ fun I2 J2 q2 j2 g2 r2 v2 => ?_
  refine lt_ok (r := Int32.toInt64 r2) (eM_le (fun f => by (try dsimp only); (repeat' split) <;> first | omega | exact fre_le) (by decide)) g2 (fun z => ?_) (k _ _ _ (hR.q (q1.tr q2) (j1.tr j2.j6)) _ _ (by omega) (by omega))
  rw [j2.l46, v1 z]
  exact congrArg Int32.toInt64 (vint (v2 z))
end YK
