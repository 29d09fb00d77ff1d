/-! ===== the law's cases: changes ===== -/
theorem CF.kq {I I' : gI} (h : CF I I') : ∀ a b c d, (a = 31 ∨ a = 32 ∨ a = 33) → I' a b c d = I a b c d := fun a b c d z => h a b c d (by omega)
theorem he_if {c : Prop} [Decidable c] : ((if c then 2 else 1 : Nat) = 1 ∧ (if c then 3 else 2 : Nat) = 2) ∨ ((if c then 2 else 1 : Nat) = 2 ∧ (if c then 3 else 2 : Nat) = 3) := by
  split
  · exact Or.inr ⟨rfl, rfl⟩
  · exact Or.inl ⟨rfl, rfl⟩
section YC
variable {E : gEn} {Q : gQt} {X : gXt} {I : gI} {J : gJ} {B : gB} {y5 : Int32} {cc w e : Nat} {f : Nat → Int} {c nx : Nat} {h : Nat → Nat → Int} {a b d : Int} {r x : Int32}
def CC (E : gEn) (y : Nat) (args : List gV) (f : Nat → Int) (I : gI) (J : gJ) (B : gB) (c nx : Nat) (h : Nat → Nat → Int) (ok : Prop) (f' : Nat → Int) (r0 : Int) (kx : Nat) : Prop := ∀ (Q : gQt) (X : gXt), (ok → ∀ I' J' B', CF I I' → CJ J J' → (∀ m, B m = true → B' m = true) → St f' c nx h f I' J' B' → Q (.inl (.int (gi r0))) I' J' B') → (¬ ok → ∀ I', QF I I' → X kx I' J B) → gC E y args I J B Q X
def MM (E : gEn) (y : Nat) (args : List gV) (f : Nat → Int) (I : gI) (J : gJ) (B : gB) (c : Nat) (h : Nat → Nat → Int) (ok : Prop) (f' : Nat → Int) (r0 : Int) (e0 : Nat) : Prop := ∀ (Q : gQt) (X : gXt), (ok → ∀ I' J', MF I I' → FX J J' → I' 31 0 0 0 = gi 0 → Mrow f' I' → Mdh I' (min (c + 1) 8) (nwH c h f) → Q (.inl (.int (gi r0))) I' J' B) → (¬ ok → ∀ I', QF I I' → I' 31 0 0 0 = gi e0 → ∀ r, Q (.inl (.int r)) I' J B) → gC E y args I J B Q X
def CW (E : gEn) (y : Nat) (args : List gV) (f : Nat → Int) (I : gI) (J : gJ) (B : gB) (c nx : Nat) (h : Nat → Nat → Int) (ok : Prop) (f' : Nat → Int) (r0 : Int) (e0 : Nat) : Prop := ∀ (Q : gQt) (X : gXt), (ok → ∀ I' J' B', CF I I' → CJ J J' → (∀ m, B m = true → B' m = true) → St f' c nx h f I' J' B' → J' 46 0 0 = Int32.toInt64 (gi r0) → Q (.inl (.int (gi 0))) I' J' B') → (¬ ok → ∀ I', QF I I' → Q (.inl (.int (gi e0))) I' J B) → gC E y args I J B Q X
theorem CJ.up46 {J' : gJ} {x : Int64} (hj : CJ J J') : CJ J (gUJ J' 46 0 0 x) := fun a b d h1 h2 => (if_neg (fun z => by omega)).trans (hj a b d h1 h2)
theorem St.up46 {f' : Nat → Int} {x : Int64} (hs : St f' c nx h f I J B) : St f' c nx h f I (gUJ J 46 0 0 x) B := by
  obtain ⟨s1, s2, s3, s4⟩ := hs
  exact ⟨s1.to (fun _ _ _ _ => rfl) (fun a d z => if_neg (fun z2 => by omega)), s2.to (fun _ => rfl) (fun _ _ _ _ _ _ _ => rfl) (fun a b d z _ _ => if_neg (fun z2 => by omega)), s3, s4⟩
theorem CC.cw {y : Nat} {args : List gV} {ok : Prop} {f' : Nat → Int} {r0 : Int} {kx e0 : Nat} (hh : CC E y args f I J B c nx h ok f' r0 kx) {A0 A1 A2 : gI → gJ → gB → Prop} (ax : ∀ I' J', Q (.inl (.int (gi e0))) I' J' B → gx3 kx (A0 I' J' B) (A1 I' J' B) (A2 I' J' B)) (k1 : ok → ∀ I' J' B', CF I I' → CJ J J' → (∀ m, B m = true → B' m = true) → St f' c nx h f I' J' B' → J' 46 0 0 = Int32.toInt64 (gi r0) → Q (.inl (.int (gi 0))) I' J' B') (k2 : ¬ ok → ∀ I', QF I I' → Q (.inl (.int (gi e0))) I' J B) : gC E y args I J B (fun v1 I2 J3 B4 => gvi v1 fun r5 => (vp_in (gi 0) 1 ∧ (Q (.inl (.int (gi 0))) I2 (gUJ J3 46 0 0 (Int32.toInt64 r5)) B4))) (fun k9 I6 J7 B8 => gx3 k9 (A0 I6 J7 B8) (A1 I6 J7 B8) (A2 I6 J7 B8)) :=
  hh _ _ (fun o I' J' B' cf cj mo st => And.intro vp0 (k1 o I' _ B' cf cj.up46 mo st.up46 (if_pos ⟨rfl, rfl, rfl⟩))) (fun no I' q => ax I' J (k2 no I' q))
theorem cc_setDiagonal (h1 : -2147483648 ≤ a) (h2 : a < 2147483648) (h3 : -2147483648 ≤ b) (h4 : b < 2147483648) (hv : Vf f) (hR : Rst f I J 0) (hC : Clh I J B c nx h) (hB : Bk B) : CC E 98 [.inr (3, 0, 0), .inl (.int (gi a)), .inl (.int (gi b))] f I J B c nx h ((-f 0 < a ∧ a < f 0) ∧ (-50 ≤ b ∧ b ≤ 50)) (bgF (upF f (2 + (a + 6).toNat) b)) (f (2 + (a + 6).toNat)) (if (-f 0 < a ∧ a < f 0) then 2 else 1) :=
  fun Q X k1 k2 => c_setDiagonal h1 h2 h3 h4 hv hR hC hB (fun z1 z2 => k1 ⟨z1, z2⟩) (fun z => by have q := k2 (fun z2 => z z2.1) I QF.rf; rw [if_neg z] at q; exact q) (fun z z3 => by have q := k2 (fun z2 => z3 z2.2) I QF.rf; rw [if_pos z] at q; exact q)
theorem mm_setDiagonal (h1 : -2147483648 ≤ a) (h2 : a < 2147483648) (h3 : -2147483648 ≤ b) (h4 : b < 2147483648) (hv : Vf f) (hM : Mrow f I) (hs : I 31 0 0 1 = gi 1) (hc : c ≤ 8) (hH : Mdh I c h) : MM E 243 [.inr (31, 0, 0), .inl (.int (gi a)), .inl (.int (gi b))] f I J B c h ((-f 0 < a ∧ a < f 0) ∧ (-50 ≤ b ∧ b ≤ 50)) (bgF (upF f (2 + (a + 6).toNat) b)) (f (2 + (a + 6).toNat)) (if (-f 0 < a ∧ a < f 0) then 3 else 2) :=
  fun Q X k1 k2 => m_setDiagonal h1 h2 h3 h4 hv hM hs hc hH (fun z1 z2 I' mf => k1 ⟨z1, z2⟩ I' J mf FX.rf) (fun z I' q g r => k2 (fun z2 => z z2.1) I' q (by rw [if_neg z]; exact g) r) (fun z z3 I' q g r => k2 (fun z2 => z3 z2.2) I' q (by rw [if_pos z]; exact g) r)
theorem wc_setDiagonal {ok : Prop} {f' : Nat → Int} {r0 : Int} {kx e0 : Nat} (hh : CC E 98 [.inr (3, 0, 0), .inl (.int (gi a)), .inl (.int (gi b))] f I J B c nx h ok f' r0 kx) (he : (kx = 1 ∧ e0 = 2) ∨ (kx = 2 ∧ e0 = 3)) : CW E 293 [.inr (3, 0, 0), .inl (.int (gi a)), .inl (.int (gi b)), .inr (46, 0, 0)] f I J B c nx h ok f' r0 e0 :=
  fun Q X k1 k2 => e_L_setDiagonal ⟨⟨by decide, by decide⟩, hh.cw (e0 := e0) (fun I' J' q => by rcases he with ⟨rfl, rfl⟩ | ⟨rfl, rfl⟩ <;> exact q) k1 k2⟩
theorem nc_setDiagonal (h1 : -2147483648 ≤ a) (h2 : a < 2147483648) (h3 : -2147483648 ≤ b) (h4 : b < 2147483648) (hz : I 6 0 0 0 = gi 0) : Cl E 98 [.inr (3, 0, 0), .inl (.int (gi a)), .inl (.int (gi b))] I J B 1 (.inl (.int (gi 0))) :=
  fun Q X k1 k2 => e_X7_setDiagonal ⟨⟨by decide, by decide⟩, z_rs0 hz (k2 0 rfl I J QF.rf JQ.rf)⟩
theorem nm_setDiagonal (h1 : -2147483648 ≤ a) (h2 : a < 2147483648) (h3 : -2147483648 ≤ b) (h4 : b < 2147483648) (hz : I 31 0 0 1 = gi 0) : Ml E 243 [.inr (31, 0, 0), .inl (.int (gi a)), .inl (.int (gi b))] I J B 1 (.inl (.int (gi 0))) :=
  fun Q X k => e_X8_setDiagonal (z_ns0 hz fun I1 t g => And.intro (fun _ => k I1 J t.q JQ.rf g _ (fun z => absurd z (by decide))) (fun z => absurd z (by decide)))
theorem wn_setDiagonal (hh : Cl E 98 [.inr (3, 0, 0), .inl (.int (gi a)), .inl (.int (gi b))] I J B 1 (.inl (.int r))) : Cw E 293 [.inr (3, 0, 0), .inl (.int (gi a)), .inl (.int (gi b)), .inr (46, 0, 0)] I J B 1 46 (Int32.toInt64 r) :=
  fun Q X k => e_L_setDiagonal ⟨⟨by decide, by decide⟩, hh.w 1 (by decide) (by decide) (fun _ _ _ h => h) (fun z => absurd z (by decide)) (fun z => absurd z (by decide)) k⟩
theorem k_setDiagonal (hR : Rl I J B) (y : Ly E y5) (hc : cc + 12 ≤ 601024) (hw : w + 172 ≤ 7293034) (k : Kx E Q X y5 cc w) : gG E 313 2702 (lls y5) [] I J B cc w Q X := by
  obtain ⟨y1, y2, y3, y4, y6⟩ := y
  obtain ⟨a, h1, h2, e1⟩ := gi_ex (gXs E (Int32.toNatClampNeg (y5 + gi 1)))
  obtain ⟨b, h3, h4, e2⟩ := gi_ex (gXs E (Int32.toNatClampNeg (y5 + gi 2)))
  obtain ⟨o, c2, nx, hh, hS, hC, hD, hz, hB, hF, hT⟩ := id hR.1
  refine s_L_law_2702 ?_
  rw [e1, e2]
  refine ⟨y1, y2, ⟨by omega, by omega⟩, ?_⟩
  cases o with
  | none =>
    refine wn_setDiagonal (nc_setDiagonal h1 h2 h3 h4 hS.2.1) _ _ fun I1 J1 q1 j1 v1 => ?_
    refine And.intro y1 (And.intro y2 ?_)
    refine nm_setDiagonal h1 h2 h3 h4 (hS.j6 q1 j1).1 _ _ fun I2 J2 q2 j2 g2 r2 v2 => ?_
    exact lt_ok (e := 1) (r := Int32.toInt64 r2) (by decide) g2 (fun z => absurd z (by decide)) (k _ _ _ (hR.q (q1.tr q2) (j1.tr j2.j6)) _ _ (by omega) (by omega))
  | some f =>
    obtain ⟨hs, hv, hRs, hM⟩ := hS
    refine wc_setDiagonal (e0 := (if (-f 0 < a ∧ a < f 0) then 3 else 2)) (cc_setDiagonal h1 h2 h3 h4 hv hRs hC hB) he_if _ _ (fun ok I1 J1 B1 cf cj mo st v1 => ?_) (fun no I1 q1 => ?_)
    · refine And.intro y1 (And.intro y2 ?_)
      refine mm_setDiagonal h1 h2 h3 h4 hv (hM.to fun k hk => cf.kq 32 0 0 k (by omega)) ((cf.kq 31 0 0 1 (by omega)).trans hs) hC.2.2.1 (hD.to hC.2.2.1 (cf.kq 31 0 0 4 (by omega)) (fun i _ _ => cf.kq 33 0 0 i (by omega))) _ _ (fun _ I2 J2 mf fx g2 hM2 hD2 => ?_) (fun z => absurd ok z)
      exact lt_ok (e := 0) (r := Int32.toInt64 (gi _)) (by decide) g2 (fun _ => (fx 46 0 0 (by decide) (by decide) (by decide)).trans v1) (k _ _ _ (Rl.chg hF hT cf cj mo st.2.2.1 st.2.2.2 st.1 st.2.1 mf fx hs hM2 hD2) _ _ (by omega) (by omega))
    · refine And.intro y1 (And.intro y2 ?_)
      refine mm_setDiagonal h1 h2 h3 h4 hv (q1.mrow hM) ((q1 31 0 0 1 (by unfold KQ; omega)).trans hs) hC.2.2.1 (hD.to hC.2.2.1 (q1 31 0 0 4 (by unfold KQ; omega)) (fun i z1 _ => q1 33 0 0 i (by unfold KQ; omega))) _ _ (fun z => absurd z no) (fun _ I2 q2 g2 r2 => ?_)
      exact lt_ok (e := (if (-f 0 < a ∧ a < f 0) then 3 else 2)) (r := Int32.toInt64 r2) (by split <;> decide) g2 (fun z => absurd z (by split <;> decide)) (k _ _ _ (hR.q (q1.tr q2) (fun _ _ _ _ _ => rfl)) _ _ (by omega) (by omega))
theorem cc_setSide (h1 : -2147483648 ≤ a) (h2 : a < 2147483648) (h3 : -2147483648 ≤ b) (h4 : b < 2147483648) (hv : Vf f) (hR : Rst f I J 0) (hC : Clh I J B c nx h) (hB : Bk B) : CC E 99 [.inr (3, 0, 0), .inl (.int (gi a)), .inl (.int (gi b))] f I J B c nx h ((0 ≤ a ∧ a < f 0) ∧ (-999 ≤ b ∧ b ≤ 999)) (bgF (upF f (15 + a.toNat) b)) (f (15 + a.toNat)) (if (0 ≤ a ∧ a < f 0) then 2 else 1) :=
  fun Q X k1 k2 => c_setSide h1 h2 h3 h4 hv hR hC hB (fun z1 z2 => k1 ⟨z1, z2⟩) (fun z => by have q := k2 (fun z2 => z z2.1) I QF.rf; rw [if_neg z] at q; exact q) (fun z z3 => by have q := k2 (fun z2 => z3 z2.2) I QF.rf; rw [if_pos z] at q; exact q)
theorem mm_setSide (h1 : -2147483648 ≤ a) (h2 : a < 2147483648) (h3 : -2147483648 ≤ b) (h4 : b < 2147483648) (hv : Vf f) (hM : Mrow f I) (hs : I 31 0 0 1 = gi 1) (hc : c ≤ 8) (hH : Mdh I c h) : MM E 244 [.inr (31, 0, 0), .inl (.int (gi a)), .inl (.int (gi b))] f I J B c h ((0 ≤ a ∧ a < f 0) ∧ (-999 ≤ b ∧ b ≤ 999)) (bgF (upF f (15 + a.toNat) b)) (f (15 + a.toNat)) (if (0 ≤ a ∧ a < f 0) then 3 else 2) :=
  fun Q X k1 k2 => m_setSide h1 h2 h3 h4 hv hM hs hc hH (fun z1 z2 I' mf => k1 ⟨z1, z2⟩ I' J mf FX.rf) (fun z I' q g r => k2 (fun z2 => z z2.1) I' q (by rw [if_neg z]; exact g) r) (fun z z3 I' q g r => k2 (fun z2 => z3 z2.2) I' q (by rw [if_pos z]; exact g) r)
theorem wc_setSide {ok : Prop} {f' : Nat → Int} {r0 : Int} {kx e0 : Nat} (hh : CC E 99 [.inr (3, 0, 0), .inl (.int (gi a)), .inl (.int (gi b))] f I J B c nx h ok f' r0 kx) (he : (kx = 1 ∧ e0 = 2) ∨ (kx = 2 ∧ e0 = 3)) : CW E 294 [.inr (3, 0, 0), .inl (.int (gi a)), .inl (.int (gi b)), .inr (46, 0, 0)] f I J B c nx h ok f' r0 e0 :=
  fun Q X k1 k2 => e_L_setSide ⟨⟨by decide, by decide⟩, hh.cw (e0 := e0) (fun I' J' q => by rcases he with ⟨rfl, rfl⟩ | ⟨rfl, rfl⟩ <;> exact q) k1 k2⟩
theorem nc_setSide (h1 : -2147483648 ≤ a) (h2 : a < 2147483648) (h3 : -2147483648 ≤ b) (h4 : b < 2147483648) (hz : I 6 0 0 0 = gi 0) : Cl E 99 [.inr (3, 0, 0), .inl (.int (gi a)), .inl (.int (gi b))] I J B 1 (.inl (.int (gi 0))) :=
  fun Q X k1 k2 => e_X7_setSide ⟨⟨by decide, by decide⟩, z_rs0 hz (k2 0 rfl I J QF.rf JQ.rf)⟩
theorem nm_setSide (h1 : -2147483648 ≤ a) (h2 : a < 2147483648) (h3 : -2147483648 ≤ b) (h4 : b < 2147483648) (hz : I 31 0 0 1 = gi 0) : Ml E 244 [.inr (31, 0, 0), .inl (.int (gi a)), .inl (.int (gi b))] I J B 1 (.inl (.int (gi 0))) :=
  fun Q X k => e_X8_setSide (z_nr0 hz fun I1 t g => And.intro (fun _ => k I1 J t.q JQ.rf g _ (fun z => absurd z (by decide))) (fun z => absurd z (by decide)))
theorem wn_setSide (hh : Cl E 99 [.inr (3, 0, 0), .inl (.int (gi a)), .inl (.int (gi b))] I J B 1 (.inl (.int r))) : Cw E 294 [.inr (3, 0, 0), .inl (.int (gi a)), .inl (.int (gi b)), .inr (46, 0, 0)] I J B 1 46 (Int32.toInt64 r) :=
  fun Q X k => e_L_setSide ⟨⟨by decide, by decide⟩, hh.w 1 (by decide) (by decide) (fun _ _ _ h => h) (fun z => absurd z (by decide)) (fun z => absurd z (by decide)) k⟩
theorem k_setSide (hR : Rl I J B) (y : Ly E y5) (hc : cc + 12 ≤ 601024) (hw : w + 172 ≤ 7293034) (k : Kx E Q X y5 cc w) : gG E 313 2770 (lls y5) [] I J B cc w Q X := by
  obtain ⟨y1, y2, y3, y4, y6⟩ := y
  obtain ⟨a, h1, h2, e1⟩ := gi_ex (gXs E (Int32.toNatClampNeg (y5 + gi 1)))
  obtain ⟨b, h3, h4, e2⟩ := gi_ex (gXs E (Int32.toNatClampNeg (y5 + gi 2)))
  obtain ⟨o, c2, nx, hh, hS, hC, hD, hz, hB, hF, hT⟩ := id hR.1
  refine s_L_law_2770 ?_
  rw [e1, e2]
  refine ⟨y1, y2, ⟨by omega, by omega⟩, ?_⟩
  cases o with
  | none =>
    refine wn_setSide (nc_setSide h1 h2 h3 h4 hS.2.1) _ _ fun I1 J1 q1 j1 v1 => ?_
    refine And.intro y1 (And.intro y2 ?_)
    refine nm_setSide h1 h2 h3 h4 (hS.j6 q1 j1).1 _ _ fun I2 J2 q2 j2 g2 r2 v2 => ?_
    exact lt_ok (e := 1) (r := Int32.toInt64 r2) (by decide) g2 (fun z => absurd z (by decide)) (k _ _ _ (hR.q (q1.tr q2) (j1.tr j2.j6)) _ _ (by omega) (by omega))
  | some f =>
    obtain ⟨hs, hv, hRs, hM⟩ := hS
    refine wc_setSide (e0 := (if (0 ≤ a ∧ a < f 0) then 3 else 2)) (cc_setSide h1 h2 h3 h4 hv hRs hC hB) he_if _ _ (fun ok I1 J1 B1 cf cj mo st v1 => ?_) (fun no I1 q1 => ?_)
    · refine And.intro y1 (And.intro y2 ?_)
      refine mm_setSide h1 h2 h3 h4 hv (hM.to fun k hk => cf.kq 32 0 0 k (by omega)) ((cf.kq 31 0 0 1 (by omega)).trans hs) hC.2.2.1 (hD.to hC.2.2.1 (cf.kq 31 0 0 4 (by omega)) (fun i _ _ => cf.kq 33 0 0 i (by omega))) _ _ (fun _ I2 J2 mf fx g2 hM2 hD2 => ?_) (fun z => absurd ok z)
      exact lt_ok (e := 0) (r := Int32.toInt64 (gi _)) (by decide) g2 (fun _ => (fx 46 0 0 (by decide) (by decide) (by decide)).trans v1) (k _ _ _ (Rl.chg hF hT cf cj mo st.2.2.1 st.2.2.2 st.1 st.2.1 mf fx hs hM2 hD2) _ _ (by omega) (by omega))
    · refine And.intro y1 (And.intro y2 ?_)
      refine mm_setSide h1 h2 h3 h4 hv (q1.mrow hM) ((q1 31 0 0 1 (by unfold KQ; omega)).trans hs) hC.2.2.1 (hD.to hC.2.2.1 (q1 31 0 0 4 (by unfold KQ; omega)) (fun i z1 _ => q1 33 0 0 i (by unfold KQ; omega))) _ _ (fun z => absurd z no) (fun _ I2 q2 g2 r2 => ?_)
      exact lt_ok (e := (if (0 ≤ a ∧ a < f 0) then 3 else 2)) (r := Int32.toInt64 r2) (by split <;> decide) g2 (fun z => absurd z (by split <;> decide)) (k _ _ _ (hR.q (q1.tr q2) (fun _ _ _ _ _ => rfl)) _ _ (by omega) (by omega))
theorem cc_setProbe (h1 : -2147483648 ≤ a) (h2 : a < 2147483648) (h3 : -2147483648 ≤ b) (h4 : b < 2147483648) (hv : Vf f) (hR : Rst f I J 0) (hC : Clh I J B c nx h) (hB : Bk B) : CC E 100 [.inr (3, 0, 0), .inl (.int (gi a)), .inl (.int (gi b))] f I J B c nx h ((0 ≤ a ∧ a < f 0) ∧ (-999 ≤ b ∧ b ≤ 999)) (upF f (22 + a.toNat) b) (f (22 + a.toNat)) (if (0 ≤ a ∧ a < f 0) then 2 else 1) :=
  fun Q X k1 k2 => c_setProbe h1 h2 h3 h4 hv hR hC hB (fun z1 z2 => k1 ⟨z1, z2⟩) (fun z => by have q := k2 (fun z2 => z z2.1) I QF.rf; rw [if_neg z] at q; exact q) (fun z z3 => by have q := k2 (fun z2 => z3 z2.2) I QF.rf; rw [if_pos z] at q; exact q)
theorem mm_setProbe (h1 : -2147483648 ≤ a) (h2 : a < 2147483648) (h3 : -2147483648 ≤ b) (h4 : b < 2147483648) (hv : Vf f) (hM : Mrow f I) (hs : I 31 0 0 1 = gi 1) (hc : c ≤ 8) (hH : Mdh I c h) : MM E 245 [.inr (31, 0, 0), .inl (.int (gi a)), .inl (.int (gi b))] f I J B c h ((0 ≤ a ∧ a < f 0) ∧ (-999 ≤ b ∧ b ≤ 999)) (upF f (22 + a.toNat) b) (f (22 + a.toNat)) (if (0 ≤ a ∧ a < f 0) then 3 else 2) :=
  fun Q X k1 k2 => m_setProbe h1 h2 h3 h4 hv hM hs hc hH (fun z1 z2 I' mf => k1 ⟨z1, z2⟩ I' J mf FX.rf) (fun z I' q g r => k2 (fun z2 => z z2.1) I' q (by rw [if_neg z]; exact g) r) (fun z z3 I' q g r => k2 (fun z2 => z3 z2.2) I' q (by rw [if_pos z]; exact g) r)
theorem wc_setProbe {ok : Prop} {f' : Nat → Int} {r0 : Int} {kx e0 : Nat} (hh : CC E 100 [.inr (3, 0, 0), .inl (.int (gi a)), .inl (.int (gi b))] f I J B c nx h ok f' r0 kx) (he : (kx = 1 ∧ e0 = 2) ∨ (kx = 2 ∧ e0 = 3)) : CW E 295 [.inr (3, 0, 0), .inl (.int (gi a)), .inl (.int (gi b)), .inr (46, 0, 0)] f I J B c nx h ok f' r0 e0 :=
  fun Q X k1 k2 => e_L_setProbe ⟨⟨by decide, by decide⟩, hh.cw (e0 := e0) (fun I' J' q => by rcases he with ⟨rfl, rfl⟩ | ⟨rfl, rfl⟩ <;> exact q) k1 k2⟩
theorem nc_setProbe (h1 : -2147483648 ≤ a) (h2 : a < 2147483648) (h3 : -2147483648 ≤ b) (h4 : b < 2147483648) (hz : I 6 0 0 0 = gi 0) : Cl E 100 [.inr (3, 0, 0), .inl (.int (gi a)), .inl (.int (gi b))] I J B 1 (.inl (.int (gi 0))) :=
  fun Q X k1 k2 => e_X7_setProbe ⟨⟨by decide, by decide⟩, z_rs0 hz (k2 0 rfl I J QF.rf JQ.rf)⟩
theorem nm_setProbe (h1 : -2147483648 ≤ a) (h2 : a < 2147483648) (h3 : -2147483648 ≤ b) (h4 : b < 2147483648) (hz : I 31 0 0 1 = gi 0) : Ml E 245 [.inr (31, 0, 0), .inl (.int (gi a)), .inl (.int (gi b))] I J B 1 (.inl (.int (gi 0))) :=
  fun Q X k => e_X8_setProbe (z_nr0 hz fun I1 t g => And.intro (fun _ => k I1 J t.q JQ.rf g _ (fun z => absurd z (by decide))) (fun z => absurd z (by decide)))
theorem wn_setProbe (hh : Cl E 100 [.inr (3, 0, 0), .inl (.int (gi a)), .inl (.int (gi b))] I J B 1 (.inl (.int r))) : Cw E 295 [.inr (3, 0, 0), .inl (.int (gi a)), .inl (.int (gi b)), .inr (46, 0, 0)] I J B 1 46 (Int32.toInt64 r) :=
  fun Q X k => e_L_setProbe ⟨⟨by decide, by decide⟩, hh.w 1 (by decide) (by decide) (fun _ _ _ h => h) (fun z => absurd z (by decide)) (fun z => absurd z (by decide)) k⟩
theorem k_setProbe (hR : Rl I J B) (y : Ly E y5) (hc : cc + 12 ≤ 601024) (hw : w + 172 ≤ 7293034) (k : Kx E Q X y5 cc w) : gG E 313 2838 (lls y5) [] I J B cc w Q X := by
  obtain ⟨y1, y2, y3, y4, y6⟩ := y
  obtain ⟨a, h1, h2, e1⟩ := gi_ex (gXs E (Int32.toNatClampNeg (y5 + gi 1)))
  obtain ⟨b, h3, h4, e2⟩ := gi_ex (gXs E (Int32.toNatClampNeg (y5 + gi 2)))
  obtain ⟨o, c2, nx, hh, hS, hC, hD, hz, hB, hF, hT⟩ := id hR.1
  refine s_L_law_2838 ?_
  rw [e1, e2]
  refine ⟨y1, y2, ⟨by omega, by omega⟩, ?_⟩
  cases o with
  | none =>
    refine wn_setProbe (nc_setProbe h1 h2 h3 h4 hS.2.1) _ _ fun I1 J1 q1 j1 v1 => ?_
    refine And.intro y1 (And.intro y2 ?_)
    refine nm_setProbe h1 h2 h3 h4 (hS.j6 q1 j1).1 _ _ fun I2 J2 q2 j2 g2 r2 v2 => ?_
    exact lt_ok (e := 1) (r := Int32.toInt64 r2) (by decide) g2 (fun z => absurd z (by decide)) (k _ _ _ (hR.q (q1.tr q2) (j1.tr j2.j6)) _ _ (by omega) (by omega))
  | some f =>
    obtain ⟨hs, hv, hRs, hM⟩ := hS
    refine wc_setProbe (e0 := (if (0 ≤ a ∧ a < f 0) then 3 else 2)) (cc_setProbe h1 h2 h3 h4 hv hRs hC hB) he_if _ _ (fun ok I1 J1 B1 cf cj mo st v1 => ?_) (fun no I1 q1 => ?_)
    · refine And.intro y1 (And.intro y2 ?_)
      refine mm_setProbe h1 h2 h3 h4 hv (hM.to fun k hk => cf.kq 32 0 0 k (by omega)) ((cf.kq 31 0 0 1 (by omega)).trans hs) hC.2.2.1 (hD.to hC.2.2.1 (cf.kq 31 0 0 4 (by omega)) (fun i _ _ => cf.kq 33 0 0 i (by omega))) _ _ (fun _ I2 J2 mf fx g2 hM2 hD2 => ?_) (fun z => absurd ok z)
      exact lt_ok (e := 0) (r := Int32.toInt64 (gi _)) (by decide) g2 (fun _ => (fx 46 0 0 (by decide) (by decide) (by decide)).trans v1) (k _ _ _ (Rl.chg hF hT cf cj mo st.2.2.1 st.2.2.2 st.1 st.2.1 mf fx hs hM2 hD2) _ _ (by omega) (by omega))
    · refine And.intro y1 (And.intro y2 ?_)
      refine mm_setProbe h1 h2 h3 h4 hv (q1.mrow hM) ((q1 31 0 0 1 (by unfold KQ; omega)).trans hs) hC.2.2.1 (hD.to hC.2.2.1 (q1 31 0 0 4 (by unfold KQ; omega)) (fun i z1 _ => q1 33 0 0 i (by unfold KQ; omega))) _ _ (fun z => absurd z no) (fun _ I2 q2 g2 r2 => ?_)
      exact lt_ok (e := (if (0 ≤ a ∧ a < f 0) then 3 else 2)) (r := Int32.toInt64 r2) (by split <;> decide) g2 (fun z => absurd z (by split <;> decide)) (k _ _ _ (hR.q (q1.tr q2) (fun _ _ _ _ _ => rfl)) _ _ (by omega) (by omega))
theorem cc_setPrime (h1 : -2147483648 ≤ a) (h2 : a < 2147483648) (hv : Vf f) (hR : Rst f I J 0) (hC : Clh I J B c nx h) (hB : Bk B) : CC E 101 [.inr (3, 0, 0), .inl (.int (gi a))] f I J B c nx h (a ∈ primesL) (bgF (upF f 1 a)) (f 1) 2 :=
  fun Q X k1 k2 => c_setPrime h1 h2 hv hR hC hB k1 (fun z => k2 z I QF.rf)
theorem mm_setPrime (h1 : -2147483648 ≤ a) (h2 : a < 2147483648) (hv : Vf f) (hM : Mrow f I) (hs : I 31 0 0 1 = gi 1) (hc : c ≤ 8) (hH : Mdh I c h) : MM E 246 [.inr (31, 0, 0), .inl (.int (gi a))] f I J B c h (a ∈ primesL) (bgF (upF f 1 a)) (f 1) 2 :=
  fun Q X k1 k2 => m_setPrime h1 h2 hv hM hs hc hH (fun z1 I' mf => k1 z1 I' J mf FX.rf) k2
theorem wc_setPrime {ok : Prop} {f' : Nat → Int} {r0 : Int} {kx e0 : Nat} (hh : CC E 101 [.inr (3, 0, 0), .inl (.int (gi a))] f I J B c nx h ok f' r0 kx) (he : kx = 2 ∧ e0 = 2) : CW E 296 [.inr (3, 0, 0), .inl (.int (gi a)), .inr (46, 0, 0)] f I J B c nx h ok f' r0 e0 :=
  fun Q X k1 k2 => e_L_setPrime ⟨⟨by decide, by decide⟩, hh.cw (e0 := e0) (fun I' J' q => by obtain ⟨rfl, rfl⟩ := he; exact q) k1 k2⟩
theorem nc_setPrime (h1 : -2147483648 ≤ a) (h2 : a < 2147483648) (hz : I 6 0 0 0 = gi 0) : Cl E 101 [.inr (3, 0, 0), .inl (.int (gi a))] I J B 1 (.inl (.int (gi 0))) :=
  fun Q X k1 k2 => e_X7_setPrime ⟨⟨by decide, by decide⟩, z_rs0 hz (k2 0 rfl I J QF.rf JQ.rf)⟩
theorem nm_setPrime (h1 : -2147483648 ≤ a) (h2 : a < 2147483648) (hz : I 31 0 0 1 = gi 0) : Ml E 246 [.inr (31, 0, 0), .inl (.int (gi a))] I J B 1 (.inl (.int (gi 0))) :=
  fun Q X k => e_X8_setPrime (z_ns0 hz fun I1 t g => And.intro (fun _ => k I1 J t.q JQ.rf g _ (fun z => absurd z (by decide))) (fun z => absurd z (by decide)))
theorem wn_setPrime (hh : Cl E 101 [.inr (3, 0, 0), .inl (.int (gi a))] I J B 1 (.inl (.int r))) : Cw E 296 [.inr (3, 0, 0), .inl (.int (gi a)), .inr (46, 0, 0)] I J B 1 46 (Int32.toInt64 r) :=
  fun Q X k => e_L_setPrime ⟨⟨by decide, by decide⟩, hh.w 1 (by decide) (by decide) (fun _ _ _ h => h) (fun z => absurd z (by decide)) (fun z => absurd z (by decide)) k⟩
theorem k_setPrime (hR : Rl I J B) (y : Ly E y5) (hc : cc + 12 ≤ 601024) (hw : w + 172 ≤ 7293034) (k : Kx E Q X y5 cc w) : gG E 313 2906 (lls y5) [] I J B cc w Q X := by
  obtain ⟨y1, y2, y3, y4, y6⟩ := y
  obtain ⟨a, h1, h2, e1⟩ := gi_ex (gXs E (Int32.toNatClampNeg (y5 + gi 1)))
  obtain ⟨o, c2, nx, hh, hS, hC, hD, hz, hB, hF, hT⟩ := id hR.1
  refine s_L_law_2906 ?_
  rw [e1]
  refine ⟨y1, ⟨by omega, by omega⟩, ?_⟩
  cases o with
  | none =>
    refine wn_setPrime (nc_setPrime h1 h2 hS.2.1) _ _ fun I1 J1 q1 j1 v1 => ?_
    refine And.intro y1 ?_
    refine nm_setPrime h1 h2 (hS.j6 q1 j1).1 _ _ fun I2 J2 q2 j2 g2 r2 v2 => ?_
    exact lt_ok (e := 1) (r := Int32.toInt64 r2) (by decide) g2 (fun z => absurd z (by decide)) (k _ _ _ (hR.q (q1.tr q2) (j1.tr j2.j6)) _ _ (by omega) (by omega))
  | some f =>
    obtain ⟨hs, hv, hRs, hM⟩ := hS
    refine wc_setPrime (e0 := 2) (cc_setPrime h1 h2 hv hRs hC hB) ⟨rfl, rfl⟩ _ _ (fun ok I1 J1 B1 cf cj mo st v1 => ?_) (fun no I1 q1 => ?_)
    · refine And.intro y1 ?_
      refine mm_setPrime h1 h2 hv (hM.to fun k hk => cf.kq 32 0 0 k (by omega)) ((cf.kq 31 0 0 1 (by omega)).trans hs) hC.2.2.1 (hD.to hC.2.2.1 (cf.kq 31 0 0 4 (by omega)) (fun i _ _ => cf.kq 33 0 0 i (by omega))) _ _ (fun _ I2 J2 mf fx g2 hM2 hD2 => ?_) (fun z => absurd ok z)
      exact lt_ok (e := 0) (r := Int32.toInt64 (gi _)) (by decide) g2 (fun _ => (fx 46 0 0 (by decide) (by decide) (by decide)).trans v1) (k _ _ _ (Rl.chg hF hT cf cj mo st.2.2.1 st.2.2.2 st.1 st.2.1 mf fx hs hM2 hD2) _ _ (by omega) (by omega))
    · refine And.intro y1 ?_
      refine mm_setPrime h1 h2 hv (q1.mrow hM) ((q1 31 0 0 1 (by unfold KQ; omega)).trans hs) hC.2.2.1 (hD.to hC.2.2.1 (q1 31 0 0 4 (by unfold KQ; omega)) (fun i z1 _ => q1 33 0 0 i (by unfold KQ; omega))) _ _ (fun z => absurd z no) (fun _ I2 q2 g2 r2 => ?_)
      exact lt_ok (e := 2) (r := Int32.toInt64 r2) (by decide) g2 (fun z => absurd z (by decide)) (k _ _ _ (hR.q (q1.tr q2) (fun _ _ _ _ _ => rfl)) _ _ (by omega) (by omega))
theorem cc_grow (h1 : -2147483648 ≤ a) (h2 : a < 2147483648) (h3 : -2147483648 ≤ b) (h4 : b < 2147483648) (h5 : -2147483648 ≤ d) (h6 : d < 2147483648) (hv : Vf f) (hR : Rst f I J 0) (hC : Clh I J B c nx h) (hB : Bk B) : CC E 102 [.inr (3, 0, 0), .inl (.int (gi a)), .inl (.int (gi b)), .inl (.int (gi d))] f I J B c nx h (f 0 ≤ 6 ∧ (-50 ≤ a ∧ a ≤ 50) ∧ (-50 ≤ b ∧ b ≤ 50) ∧ (-999 ≤ d ∧ d ≤ 999)) (bgF (gwF f a b d)) (f 0 + 1) 2 :=
  fun Q X k1 k2 => c_grow h1 h2 h3 h4 h5 h6 hv hR hC hB k1 (fun z => k2 z I QF.rf)
theorem mm_grow (h1 : -2147483648 ≤ a) (h2 : a < 2147483648) (h3 : -2147483648 ≤ b) (h4 : b < 2147483648) (h5 : -2147483648 ≤ d) (h6 : d < 2147483648) (hv : Vf f) (hM : Mrow f I) (hs : I 31 0 0 1 = gi 1) (hc : c ≤ 8) (hH : Mdh I c h) : MM E 247 [.inr (31, 0, 0), .inl (.int (gi a)), .inl (.int (gi b)), .inl (.int (gi d))] f I J B c h (f 0 ≤ 6 ∧ (-50 ≤ a ∧ a ≤ 50) ∧ (-50 ≤ b ∧ b ≤ 50) ∧ (-999 ≤ d ∧ d ≤ 999)) (bgF (gwF f a b d)) (f 0 + 1) 2 :=
  fun Q X k1 k2 => m_grow h1 h2 h3 h4 h5 h6 hv hM hs hc hH (fun z1 I' mf => k1 z1 I' J mf FX.rf) k2
theorem wc_grow {ok : Prop} {f' : Nat → Int} {r0 : Int} {kx e0 : Nat} (hh : CC E 102 [.inr (3, 0, 0), .inl (.int (gi a)), .inl (.int (gi b)), .inl (.int (gi d))] f I J B c nx h ok f' r0 kx) (he : kx = 2 ∧ e0 = 2) : CW E 297 [.inr (3, 0, 0), .inl (.int (gi a)), .inl (.int (gi b)), .inl (.int (gi d)), .inr (46, 0, 0)] f I J B c nx h ok f' r0 e0 :=
  fun Q X k1 k2 => e_L_grow ⟨⟨by decide, by decide⟩, hh.cw (e0 := e0) (fun I' J' q => by obtain ⟨rfl, rfl⟩ := he; exact q) k1 k2⟩
theorem nc_grow (h1 : -2147483648 ≤ a) (h2 : a < 2147483648) (h3 : -2147483648 ≤ b) (h4 : b < 2147483648) (h5 : -2147483648 ≤ d) (h6 : d < 2147483648) (hz : I 6 0 0 0 = gi 0) : Cl E 102 [.inr (3, 0, 0), .inl (.int (gi a)), .inl (.int (gi b)), .inl (.int (gi d))] I J B 1 (.inl (.int (gi 0))) :=
  fun Q X k1 k2 => e_X7_grow ⟨⟨by decide, by decide⟩, z_rs0 hz (k2 0 rfl I J QF.rf JQ.rf)⟩
theorem nm_grow (h1 : -2147483648 ≤ a) (h2 : a < 2147483648) (h3 : -2147483648 ≤ b) (h4 : b < 2147483648) (h5 : -2147483648 ≤ d) (h6 : d < 2147483648) (hz : I 31 0 0 1 = gi 0) : Ml E 247 [.inr (31, 0, 0), .inl (.int (gi a)), .inl (.int (gi b)), .inl (.int (gi d))] I J B 1 (.inl (.int (gi 0))) :=
  fun Q X k => e_X8_grow (z_ns0 hz fun I1 t g => And.intro (fun _ => k I1 J t.q JQ.rf g _ (fun z => absurd z (by decide))) (fun z => absurd z (by decide)))
theorem wn_grow (hh : Cl E 102 [.inr (3, 0, 0), .inl (.int (gi a)), .inl (.int (gi b)), .inl (.int (gi d))] I J B 1 (.inl (.int r))) : Cw E 297 [.inr (3, 0, 0), .inl (.int (gi a)), .inl (.int (gi b)), .inl (.int (gi d)), .inr (46, 0, 0)] I J B 1 46 (Int32.toInt64 r) :=
  fun Q X k => e_L_grow ⟨⟨by decide, by decide⟩, hh.w 1 (by decide) (by decide) (fun _ _ _ h => h) (fun z => absurd z (by decide)) (fun z => absurd z (by decide)) k⟩
theorem k_grow (hR : Rl I J B) (y : Ly E y5) (hc : cc + 12 ≤ 601024) (hw : w + 172 ≤ 7293034) (k : Kx E Q X y5 cc w) : gG E 313 2962 (lls y5) [] I J B cc w Q X := by
  obtain ⟨y1, y2, y3, y4, y6⟩ := y
  obtain ⟨a, h1, h2, e1⟩ := gi_ex (gXs E (Int32.toNatClampNeg (y5 + gi 1)))
  obtain ⟨b, h3, h4, e2⟩ := gi_ex (gXs E (Int32.toNatClampNeg (y5 + gi 2)))
  obtain ⟨d, h5, h6, e3⟩ := gi_ex (gXs E (Int32.toNatClampNeg (y5 + gi 3)))
  obtain ⟨o, c2, nx, hh, hS, hC, hD, hz, hB, hF, hT⟩ := id hR.1
  refine s_L_law_2962 ?_
  rw [e1, e2, e3]
  refine ⟨y1, y2, y3, ⟨by omega, by omega⟩, ?_⟩
  cases o with
  | none =>
    refine wn_grow (nc_grow h1 h2 h3 h4 h5 h6 hS.2.1) _ _ fun I1 J1 q1 j1 v1 => ?_
    refine And.intro y1 (And.intro y2 (And.intro y3 ?_))
    refine nm_grow h1 h2 h3 h4 h5 h6 (hS.j6 q1 j1).1 _ _ fun I2 J2 q2 j2 g2 r2 v2 => ?_
    exact lt_ok (e := 1) (r := Int32.toInt64 r2) (by decide) g2 (fun z => absurd z (by decide)) (k _ _ _ (hR.q (q1.tr q2) (j1.tr j2.j6)) _ _ (by omega) (by omega))
  | some f =>
    obtain ⟨hs, hv, hRs, hM⟩ := hS
    refine wc_grow (e0 := 2) (cc_grow h1 h2 h3 h4 h5 h6 hv hRs hC hB) ⟨rfl, rfl⟩ _ _ (fun ok I1 J1 B1 cf cj mo st v1 => ?_) (fun no I1 q1 => ?_)
    · refine And.intro y1 (And.intro y2 (And.intro y3 ?_))
      refine mm_grow h1 h2 h3 h4 h5 h6 hv (hM.to fun k hk => cf.kq 32 0 0 k (by omega)) ((cf.kq 31 0 0 1 (by omega)).trans hs) hC.2.2.1 (hD.to hC.2.2.1 (cf.kq 31 0 0 4 (by omega)) (fun i _ _ => cf.kq 33 0 0 i (by omega))) _ _ (fun _ I2 J2 mf fx g2 hM2 hD2 => ?_) (fun z => absurd ok z)
      exact lt_ok (e := 0) (r := Int32.toInt64 (gi _)) (by decide) g2 (fun _ => (fx 46 0 0 (by decide) (by decide) (by decide)).trans v1) (k _ _ _ (Rl.chg hF hT cf cj mo st.2.2.1 st.2.2.2 st.1 st.2.1 mf fx hs hM2 hD2) _ _ (by omega) (by omega))
    · refine And.intro y1 (And.intro y2 (And.intro y3 ?_))
      refine mm_grow h1 h2 h3 h4 h5 h6 hv (q1.mrow hM) ((q1 31 0 0 1 (by unfold KQ; omega)).trans hs) hC.2.2.1 (hD.to hC.2.2.1 (q1 31 0 0 4 (by unfold KQ; omega)) (fun i z1 _ => q1 33 0 0 i (by unfold KQ; omega))) _ _ (fun z => absurd z no) (fun _ I2 q2 g2 r2 => ?_)
      exact lt_ok (e := 2) (r := Int32.toInt64 r2) (by decide) g2 (fun z => absurd z (by decide)) (k _ _ _ (hR.q (q1.tr q2) (fun _ _ _ _ _ => rfl)) _ _ (by omega) (by omega))
theorem cc_shrink (hv : Vf f) (hR : Rst f I J 0) (hC : Clh I J B c nx h) (hB : Bk B) : CC E 103 [.inr (3, 0, 0)] f I J B c nx h (f 0 ≠ 1) (bgF (upF f 0 (f 0 - 1))) (f 0 - 1) 2 :=
  fun Q X k1 k2 => c_shrink hv hR hC hB k1 (fun z => k2 (fun z2 => z2 z) I QF.rf)
theorem mm_shrink (hv : Vf f) (hM : Mrow f I) (hs : I 31 0 0 1 = gi 1) (hc : c ≤ 8) (hH : Mdh I c h) : MM E 248 [.inr (31, 0, 0)] f I J B c h (f 0 ≠ 1) (bgF (upF f 0 (f 0 - 1))) (f 0 - 1) 2 :=
  fun Q X k1 k2 => m_shrink hv hM hs hc hH (fun z1 I' mf => k1 z1 I' J mf FX.rf) (fun z => k2 (fun z2 => z2 z))
theorem wc_shrink {ok : Prop} {f' : Nat → Int} {r0 : Int} {kx e0 : Nat} (hh : CC E 103 [.inr (3, 0, 0)] f I J B c nx h ok f' r0 kx) (he : kx = 2 ∧ e0 = 2) : CW E 298 [.inr (3, 0, 0), .inr (46, 0, 0)] f I J B c nx h ok f' r0 e0 :=
  fun Q X k1 k2 => e_L_shrink ⟨⟨by decide, by decide⟩, hh.cw (e0 := e0) (fun I' J' q => by obtain ⟨rfl, rfl⟩ := he; exact q) k1 k2⟩
theorem nc_shrink (hz : I 6 0 0 0 = gi 0) : Cl E 103 [.inr (3, 0, 0)] I J B 1 (.inl (.int (gi 0))) :=
  fun Q X k1 k2 => e_X7_shrink ⟨⟨by decide, by decide⟩, z_rs0 hz (k2 0 rfl I J QF.rf JQ.rf)⟩
theorem nm_shrink (hz : I 31 0 0 1 = gi 0) : Ml E 248 [.inr (31, 0, 0)] I J B 1 (.inl (.int (gi 0))) :=
  fun Q X k => e_X8_shrink (z_ns0 hz fun I1 t g => And.intro (fun _ => k I1 J t.q JQ.rf g _ (fun z => absurd z (by decide))) (fun z => absurd z (by decide)))
theorem wn_shrink (hh : Cl E 103 [.inr (3, 0, 0)] I J B 1 (.inl (.int r))) : Cw E 298 [.inr (3, 0, 0), .inr (46, 0, 0)] I J B 1 46 (Int32.toInt64 r) :=
  fun Q X k => e_L_shrink ⟨⟨by decide, by decide⟩, hh.w 1 (by decide) (by decide) (fun _ _ _ h => h) (fun z => absurd z (by decide)) (fun z => absurd z (by decide)) k⟩
theorem k_shrink (hR : Rl I J B) (y : Ly E y5) (hc : cc + 12 ≤ 601024) (hw : w + 172 ≤ 7293034) (k : Kx E Q X y5 cc w) : gG E 313 3042 (lls y5) [] I J B cc w Q X := by
  obtain ⟨y1, y2, y3, y4, y6⟩ := y
  obtain ⟨o, c2, nx, hh, hS, hC, hD, hz, hB, hF, hT⟩ := id hR.1
  refine s_L_law_3042 ?_
  refine ⟨⟨by omega, by omega⟩, ?_⟩
  cases o with
  | none =>
    refine wn_shrink (nc_shrink hS.2.1) _ _ fun I1 J1 q1 j1 v1 => ?_
    refine nm_shrink (hS.j6 q1 j1).1 _ _ fun I2 J2 q2 j2 g2 r2 v2 => ?_
    exact lt_ok (e := 1) (r := Int32.toInt64 r2) (by decide) g2 (fun z => absurd z (by decide)) (k _ _ _ (hR.q (q1.tr q2) (j1.tr j2.j6)) _ _ (by omega) (by omega))
  | some f =>
    obtain ⟨hs, hv, hRs, hM⟩ := hS
    refine wc_shrink (e0 := 2) (cc_shrink hv hRs hC hB) ⟨rfl, rfl⟩ _ _ (fun ok I1 J1 B1 cf cj mo st v1 => ?_) (fun no I1 q1 => ?_)
    · refine mm_shrink hv (hM.to fun k hk => cf.kq 32 0 0 k (by omega)) ((cf.kq 31 0 0 1 (by omega)).trans hs) hC.2.2.1 (hD.to hC.2.2.1 (cf.kq 31 0 0 4 (by omega)) (fun i _ _ => cf.kq 33 0 0 i (by omega))) _ _ (fun _ I2 J2 mf fx g2 hM2 hD2 => ?_) (fun z => absurd ok z)
      exact lt_ok (e := 0) (r := Int32.toInt64 (gi _)) (by decide) g2 (fun _ => (fx 46 0 0 (by decide) (by decide) (by decide)).trans v1) (k _ _ _ (Rl.chg hF hT cf cj mo st.2.2.1 st.2.2.2 st.1 st.2.1 mf fx hs hM2 hD2) _ _ (by omega) (by omega))
    · refine mm_shrink hv (q1.mrow hM) ((q1 31 0 0 1 (by unfold KQ; omega)).trans hs) hC.2.2.1 (hD.to hC.2.2.1 (q1 31 0 0 4 (by unfold KQ; omega)) (fun i z1 _ => q1 33 0 0 i (by unfold KQ; omega))) _ _ (fun z => absurd z no) (fun _ I2 q2 g2 r2 => ?_)
      exact lt_ok (e := 2) (r := Int32.toInt64 r2) (by decide) g2 (fun z => absurd z (by decide)) (k _ _ _ (hR.q (q1.tr q2) (fun _ _ _ _ _ => rfl)) _ _ (by omega) (by omega))
theorem cc_lift (hv : Vf f) (hR : Rst f I J 0) (hC : Clh I J B c nx h) (hB : Bk B) : CC E 104 [.inr (3, 0, 0)] f I J B c nx h (rgB f = true ∧ (f 36).toNat < md (f 1)) (lbF f) (f 36 + 1) 2 :=
  fun Q X k1 k2 => c_lift hv hR hC hB (fun z1 z2 => k1 ⟨z1, z2⟩) k2
theorem mm_lift (hv : Vf f) (hM : Mrow f I) (hs : I 31 0 0 1 = gi 1) (hc : c ≤ 8) (hH : Mdh I c h) : MM E 249 [.inr (31, 0, 0)] f I J B c h (rgB f = true ∧ (f 36).toNat < md (f 1)) (lbF f) (f 36 + 1) 2 :=
  fun Q X k1 k2 => m_lift hv hM hs hc hH (fun z1 z2 => k1 ⟨z1, z2⟩) k2
theorem wc_lift {ok : Prop} {f' : Nat → Int} {r0 : Int} {kx e0 : Nat} (hh : CC E 104 [.inr (3, 0, 0)] f I J B c nx h ok f' r0 kx) (he : kx = 2 ∧ e0 = 2) : CW E 299 [.inr (3, 0, 0), .inr (46, 0, 0)] f I J B c nx h ok f' r0 e0 :=
  fun Q X k1 k2 => e_L_lift ⟨⟨by decide, by decide⟩, hh.cw (e0 := e0) (fun I' J' q => by obtain ⟨rfl, rfl⟩ := he; exact q) k1 k2⟩
theorem nc_lift (hz : I 6 0 0 0 = gi 0) : Cl E 104 [.inr (3, 0, 0)] I J B 1 (.inl (.int (gi 0))) :=
  fun Q X k1 k2 => e_X7_lift ⟨⟨by decide, by decide⟩, z_rs0 hz (k2 0 rfl I J QF.rf JQ.rf)⟩
theorem nm_lift (hz : I 31 0 0 1 = gi 0) : Ml E 249 [.inr (31, 0, 0)] I J B 1 (.inl (.int (gi 0))) :=
  fun Q X k => e_X8_lift (z_ns0 hz fun I1 t g => And.intro (fun _ => k I1 J t.q JQ.rf g _ (fun z => absurd z (by decide))) (fun z => absurd z (by decide)))
theorem wn_lift (hh : Cl E 104 [.inr (3, 0, 0)] I J B 1 (.inl (.int r))) : Cw E 299 [.inr (3, 0, 0), .inr (46, 0, 0)] I J B 1 46 (Int32.toInt64 r) :=
  fun Q X k => e_L_lift ⟨⟨by decide, by decide⟩, hh.w 1 (by decide) (by decide) (fun _ _ _ h => h) (fun z => absurd z (by decide)) (fun z => absurd z (by decide)) k⟩
theorem k_lift (hR : Rl I J B) (y : Ly E y5) (hc : cc + 12 ≤ 601024) (hw : w + 172 ≤ 7293034) (k : Kx E Q X y5 cc w) : gG E 313 3086 (lls y5) [] I J B cc w Q X := by
  obtain ⟨y1, y2, y3, y4, y6⟩ := y
  obtain ⟨o, c2, nx, hh, hS, hC, hD, hz, hB, hF, hT⟩ := id hR.1
  refine s_L_law_3086 ?_
  refine ⟨⟨by omega, by omega⟩, ?_⟩
  cases o with
  | none =>
    refine wn_lift (nc_lift hS.2.1) _ _ fun I1 J1 q1 j1 v1 => ?_
    refine nm_lift (hS.j6 q1 j1).1 _ _ fun I2 J2 q2 j2 g2 r2 v2 => ?_
    exact lt_ok (e := 1) (r := Int32.toInt64 r2) (by decide) g2 (fun z => absurd z (by decide)) (k _ _ _ (hR.q (q1.tr q2) (j1.tr j2.j6)) _ _ (by omega) (by omega))
  | some f =>
    obtain ⟨hs, hv, hRs, hM⟩ := hS
    refine wc_lift (e0 := 2) (cc_lift hv hRs hC hB) ⟨rfl, rfl⟩ _ _ (fun ok I1 J1 B1 cf cj mo st v1 => ?_) (fun no I1 q1 => ?_)
    · refine mm_lift hv (hM.to fun k hk => cf.kq 32 0 0 k (by omega)) ((cf.kq 31 0 0 1 (by omega)).trans hs) hC.2.2.1 (hD.to hC.2.2.1 (cf.kq 31 0 0 4 (by omega)) (fun i _ _ => cf.kq 33 0 0 i (by omega))) _ _ (fun _ I2 J2 mf fx g2 hM2 hD2 => ?_) (fun z => absurd ok z)
      exact lt_ok (e := 0) (r := Int32.toInt64 (gi _)) (by decide) g2 (fun _ => (fx 46 0 0 (by decide) (by decide) (by decide)).trans v1) (k _ _ _ (Rl.chg hF hT cf cj mo st.2.2.1 st.2.2.2 st.1 st.2.1 mf fx hs hM2 hD2) _ _ (by omega) (by omega))
    · refine mm_lift hv (q1.mrow hM) ((q1 31 0 0 1 (by unfold KQ; omega)).trans hs) hC.2.2.1 (hD.to hC.2.2.1 (q1 31 0 0 4 (by unfold KQ; omega)) (fun i z1 _ => q1 33 0 0 i (by unfold KQ; omega))) _ _ (fun z => absurd z no) (fun _ I2 q2 g2 r2 => ?_)
      exact lt_ok (e := 2) (r := Int32.toInt64 r2) (by decide) g2 (fun z => absurd z (by decide)) (k _ _ _ (hR.q (q1.tr q2) (fun _ _ _ _ _ => rfl)) _ _ (by omega) (by omega))
theorem cc_refine (h1 : -2147483648 ≤ a) (h2 : a < 2147483648) (hv : Vf f) (hR : Rst f I J 0) (hC : Clh I J B c nx h) (hB : Bk B) : CC E 105 [.inr (3, 0, 0), .inl (.int (gi a))] f I J B c nx h ((1 ≤ a ∧ a ≤ 40) ∧ rgB f = true) (rfF (min a.toNat (md (f 1) - (f 36).toNat)) f) ((rfK (min a.toNat (md (f 1) - (f 36).toNat)) f : Nat) : Int) 2 :=
  fun Q X k1 k2 => c_refine h1 h2 hv hR hC hB (fun z1 z2 => k1 ⟨z1, z2⟩) k2
theorem mm_refine (h1 : -2147483648 ≤ a) (h2 : a < 2147483648) (hv : Vf f) (hM : Mrow f I) (hs : I 31 0 0 1 = gi 1) (hc : c ≤ 8) (hH : Mdh I c h) : MM E 250 [.inr (31, 0, 0), .inl (.int (gi a))] f I J B c h ((1 ≤ a ∧ a ≤ 40) ∧ rgB f = true) (rfF (min a.toNat (md (f 1) - (f 36).toNat)) f) ((rfK (min a.toNat (md (f 1) - (f 36).toNat)) f : Nat) : Int) 2 :=
  fun Q X k1 k2 => m_refine h1 h2 hv hM hs hc hH (fun z1 z2 => k1 ⟨z1, z2⟩) k2
theorem wc_refine {ok : Prop} {f' : Nat → Int} {r0 : Int} {kx e0 : Nat} (hh : CC E 105 [.inr (3, 0, 0), .inl (.int (gi a))] f I J B c nx h ok f' r0 kx) (he : kx = 2 ∧ e0 = 2) : CW E 300 [.inr (3, 0, 0), .inl (.int (gi a)), .inr (46, 0, 0)] f I J B c nx h ok f' r0 e0 :=
  fun Q X k1 k2 => e_L_refine ⟨⟨by decide, by decide⟩, hh.cw (e0 := e0) (fun I' J' q => by obtain ⟨rfl, rfl⟩ := he; exact q) k1 k2⟩
theorem nc_refine (h1 : -2147483648 ≤ a) (h2 : a < 2147483648) (hz : I 6 0 0 0 = gi 0) : Cl E 105 [.inr (3, 0, 0), .inl (.int (gi a))] I J B 1 (.inl (.int (gi 0))) :=
  fun Q X k1 k2 => e_X7_refine ⟨⟨by decide, by decide⟩, z_rs0 hz (k2 0 rfl I J QF.rf JQ.rf)⟩
theorem nm_refine (h1 : -2147483648 ≤ a) (h2 : a < 2147483648) (hz : I 31 0 0 1 = gi 0) : Ml E 250 [.inr (31, 0, 0), .inl (.int (gi a))] I J B 1 (.inl (.int (gi 0))) :=
  fun Q X k => e_X8_refine (z_ns0 hz fun I1 t g => And.intro (fun _ => k I1 J t.q JQ.rf g _ (fun z => absurd z (by decide))) (fun z => absurd z (by decide)))
theorem wn_refine (hh : Cl E 105 [.inr (3, 0, 0), .inl (.int (gi a))] I J B 1 (.inl (.int r))) : Cw E 300 [.inr (3, 0, 0), .inl (.int (gi a)), .inr (46, 0, 0)] I J B 1 46 (Int32.toInt64 r) :=
  fun Q X k => e_L_refine ⟨⟨by decide, by decide⟩, hh.w 1 (by decide) (by decide) (fun _ _ _ h => h) (fun z => absurd z (by decide)) (fun z => absurd z (by decide)) k⟩
theorem k_refine (hR : Rl I J B) (y : Ly E y5) (hc : cc + 12 ≤ 601024) (hw : w + 172 ≤ 7293034) (k : Kx E Q X y5 cc w) : gG E 313 3130 (lls y5) [] I J B cc w Q X := by
  obtain ⟨y1, y2, y3, y4, y6⟩ := y
  obtain ⟨a, h1, h2, e1⟩ := gi_ex (gXs E (Int32.toNatClampNeg (y5 + gi 1)))
  obtain ⟨o, c2, nx, hh, hS, hC, hD, hz, hB, hF, hT⟩ := id hR.1
  refine s_L_law_3130 ?_
  rw [e1]
  refine ⟨y1, ⟨by omega, by omega⟩, ?_⟩
  cases o with
  | none =>
    refine wn_refine (nc_refine h1 h2 hS.2.1) _ _ fun I1 J1 q1 j1 v1 => ?_
    refine And.intro y1 ?_
    refine nm_refine h1 h2 (hS.j6 q1 j1).1 _ _ fun I2 J2 q2 j2 g2 r2 v2 => ?_
    exact lt_ok (e := 1) (r := Int32.toInt64 r2) (by decide) g2 (fun z => absurd z (by decide)) (k _ _ _ (hR.q (q1.tr q2) (j1.tr j2.j6)) _ _ (by omega) (by omega))
  | some f =>
    obtain ⟨hs, hv, hRs, hM⟩ := hS
    refine wc_refine (e0 := 2) (cc_refine h1 h2 hv hRs hC hB) ⟨rfl, rfl⟩ _ _ (fun ok I1 J1 B1 cf cj mo st v1 => ?_) (fun no I1 q1 => ?_)
    · refine And.intro y1 ?_
      refine mm_refine h1 h2 hv (hM.to fun k hk => cf.kq 32 0 0 k (by omega)) ((cf.kq 31 0 0 1 (by omega)).trans hs) hC.2.2.1 (hD.to hC.2.2.1 (cf.kq 31 0 0 4 (by omega)) (fun i _ _ => cf.kq 33 0 0 i (by omega))) _ _ (fun _ I2 J2 mf fx g2 hM2 hD2 => ?_) (fun z => absurd ok z)
      exact lt_ok (e := 0) (r := Int32.toInt64 (gi _)) (by decide) g2 (fun _ => (fx 46 0 0 (by decide) (by decide) (by decide)).trans v1) (k _ _ _ (Rl.chg hF hT cf cj mo st.2.2.1 st.2.2.2 st.1 st.2.1 mf fx hs hM2 hD2) _ _ (by omega) (by omega))
    · refine And.intro y1 ?_
      refine mm_refine h1 h2 hv (q1.mrow hM) ((q1 31 0 0 1 (by unfold KQ; omega)).trans hs) hC.2.2.1 (hD.to hC.2.2.1 (q1 31 0 0 4 (by unfold KQ; omega)) (fun i z1 _ => q1 33 0 0 i (by unfold KQ; omega))) _ _ (fun z => absurd z no) (fun _ I2 q2 g2 r2 => ?_)
      exact lt_ok (e := 2) (r := Int32.toInt64 r2) (by decide) g2 (fun z => absurd z (by decide)) (k _ _ _ (hR.q (q1.tr q2) (fun _ _ _ _ _ => rfl)) _ _ (by omega) (by omega))
end YC
