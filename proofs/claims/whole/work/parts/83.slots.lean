/-! ===== slots; the relation of all ===== -/
def Buf (I : gI) : Prop := ∃ nb : Nat, nb ≤ 700 ∧ I 4 0 0 1 = gi nb ∧ I 31 0 0 7 = gi nb ∧ (∀ k, k < nb → I 35 0 0 k = (I 5 0 0 k) &&& gi 255) ∧ I 31 0 0 8 = I 4 0 0 3 ∧ I 31 0 0 9 = (if I 4 0 0 3 = gi 0 then gi (-1) else I 4 0 0 4)
def Sl1 (s : Nat) (I : gI) (J : gJ) (B : gB) : Prop := (I 16 0 0 s = gi 0 ∧ I 34 0 0 s = gi 0) ∨ (I 16 0 0 s = gi 1 ∧ I 34 0 0 s = gi 1 ∧ B (11 + s + 17) = true ∧ ∃ g, Vf g ∧ Rst g I J (11 + s) ∧ Mst g I (9 + s))
def Slt (I : gI) (J : gJ) (B : gB) : Prop := ∀ s, s < 2 → Sl1 s I J B
def Rel (I : gI) (J : gJ) (B : gB) : Prop := ∃ o c nx h, Sys o I J ∧ Clh I J B c nx h ∧ Mdh I c h ∧ (o = none → c = 0) ∧ Bk B ∧ Buf I ∧ Slt I J B
def J6 (J J' : gJ) : Prop := ∀ a b d, a = 6 ∨ a = 10 → b ≠ 1 → J' a b d = J a b d
theorem JQ.j6 {J J' : gJ} (h : JQ J J') : J6 J J' := fun a b d h1 h2 => h a b d (by omega) (Or.inl h2)
theorem J6.tr {J J' J2 : gJ} (h : J6 J J') (h2 : J6 J' J2) : J6 J J2 := fun a b d h3 h4 => (h2 a b d h3 h4).trans (h a b d h3 h4)
theorem J6.up {J J' : gJ} {k n j : Nat} {x : Int64} (h : J6 J J') (hk : k ≠ 6 ∧ k ≠ 10) : J6 J (gUJ J' k n j x) := fun a b d h1 h2 => by
  rw [gUJ_at, if_neg (fun h => by omega)]
  exact h a b d h1 h2
theorem Buf.to {I I' : gI} (h : Buf I) (h1 : ∀ a b c d, (a = 4 ∨ a = 5 ∨ (a = 31 ∧ (d = 7 ∨ d = 8 ∨ d = 9)) ∨ a = 35) → I' a b c d = I a b c d) : Buf I' := by
  obtain ⟨nb, b1, b2, b3, b4, b5, b6⟩ := h
  refine ⟨nb, b1, ?_, ?_, fun k hk => ?_, ?_, ?_⟩
  · rw [h1 _ _ _ _ (by omega)]; exact b2
  · rw [h1 _ _ _ _ (by omega)]; exact b3
  · rw [h1 _ _ _ _ (by omega), h1 _ _ _ _ (by omega)]; exact b4 k hk
  · rw [h1 _ _ _ _ (by omega), h1 _ _ _ _ (by omega)]; exact b5
  · rw [h1 _ _ _ _ (by omega), h1 _ _ _ _ (by omega), h1 _ _ _ _ (by omega)]; exact b6
theorem Sl1.to {s : Nat} {I I' : gI} {J J' : gJ} {B B' : gB} (hs : s < 2) (h : Sl1 s I J B) (h1 : I' 16 0 0 s = I 16 0 0 s) (h2 : I' 34 0 0 s = I 34 0 0 s) (h3 : ∀ a d, 6 ≤ a → a ≤ 12 → I' a (11 + s) 0 d = I a (11 + s) 0 d) (h4 : ∀ a d, a = 6 ∨ a = 10 → J' a (11 + s) d = J a (11 + s) d) (h5 : ∀ i, 3672 ≤ i → i < 4488 → I' 33 0 0 i = I 33 0 0 i) (hB : ∀ m, B m = true → B' m = true) : Sl1 s I' J' B' := by
  rcases h with ⟨g1, g2⟩ | ⟨g1, g2, g3, g, g4, g5, g6⟩
  · exact Or.inl ⟨h1.trans g1, h2.trans g2⟩
  · exact Or.inr ⟨h1.trans g1, h2.trans g2, hB _ g3, g, g4, g5.to h3 h4, fun q hq => (h5 _ (by omega) (by omega)).trans (g6 q hq)⟩
section YO
variable {E : gEn} {Q : gQt} {X : gXt} {I : gI} {J : gJ} {B : gB} {cc w : Nat} {f : Nat → Int} {c nx : Nat} {h : Nat → Nat → Int} {a b d : Int}
theorem Rel.q {I' : gI} {J' : gJ} (hR : Rel I J B) (q : QF I I') (j : J6 J J') : Rel I' J' B := by
  obtain ⟨o, c, nx, h, h1, h2, h3, h4, h5, h6, h7⟩ := hR
  have hc := h2.2.2.1
  refine ⟨o, c, nx, h, ?_, h2.to (fun d => q 13 0 0 d (by unfold KQ; omega)) (fun a b d z1 z2 z3 z4 => q a b 0 d (by unfold KQ; omega)) (fun a b d z1 z2 z3 => j a b d z1 (by omega)), h3.to hc (q 31 0 0 4 (by unfold KQ; omega)) (fun i z1 _ => q 33 0 0 i (by unfold KQ; omega)), h4, h5, h6.to fun a b c d z => q a b c d (by unfold KQ; omega), fun s hs => (h7 s hs).to hs (q 16 0 0 s (by unfold KQ; omega)) (q 34 0 0 s (by unfold KQ; omega)) (fun a d z1 z2 => q a (11 + s) 0 d (by unfold KQ; omega)) (fun a d z1 => j a (11 + s) d z1 (by omega)) (fun i z1 _ => q 33 0 0 i (by unfold KQ; omega)) (fun _ z => z)⟩
  cases o with
  | none =>
    obtain ⟨g1, g2, g3, g4, g5⟩ := h1
    exact ⟨(q _ _ _ _ (by unfold KQ; omega)).trans g1, (q _ _ _ _ (by unfold KQ; omega)).trans g2, (q _ _ _ _ (by unfold KQ; omega)).trans g3, (q _ _ _ _ (by unfold KQ; omega)).trans g4, (q _ _ _ _ (by unfold KQ; omega)).trans g5⟩
  | some f =>
    obtain ⟨g1, g2, g3, g4⟩ := h1
    exact ⟨(q _ _ _ _ (by unfold KQ; omega)).trans g1, g2, g3.to (fun a d z1 z2 => q a 0 0 d (by unfold KQ; omega)) (fun a d z1 => j a 0 d z1 (by decide)), q.mrow g4⟩
/-- behind a change -/
theorem Rel.chg {f' : Nat → Int} {c' nx' : Nat} {h' : Nat → Nat → Int} {I1 I2 : gI} {J1 J2 : gJ} {B' : gB} (hF : Buf I) (hT : Slt I J B) (cf : CF I I1) (cj : CJ J J1) (hBl : ∀ m, B m = true → B' m = true) (hB : Bk B') (hv : Vf f') (hR : Rst f' I1 J1 0) (hC : Clh I1 J1 B' c' nx' h') (mf : MF I1 I2) (fx : FX J1 J2) (hs : I 31 0 0 1 = gi 1) (hM : Mrow f' I2) (hD : Mdh I2 c' h') : Rel I2 J2 B' := by
  have k1 : ∀ a b c d, a ≤ 30 → I2 a b c d = I1 a b c d := fun a b c d z => mf a b c d (by omega)
  refine ⟨some f', c', nx', h', ⟨(mf 31 0 0 1 (by omega)).trans ((cf 31 0 0 1 (by omega)).trans hs), hv, hR.to (fun a d z1 z2 => k1 a 0 0 d (by omega)) (fun a d z => fx a 0 d (by omega) (by omega) (by omega)), hM⟩, hC.to (fun d => k1 13 0 0 d (by decide)) (fun a b d z1 z2 _ _ => k1 a b 0 d (by omega)) (fun a b d z1 _ _ => fx a b d (by omega) (by omega) (by omega)), hD, (fun z => by cases z), hB, hF.to fun a b c d z => (mf a b c d (by omega)).trans (cf a b c d (by omega)), fun s hs2 => (hT s hs2).to hs2 ((k1 16 0 0 s (by decide)).trans (cf 16 0 0 s (by omega))) ((mf 34 0 0 s (by omega)).trans (cf 34 0 0 s (by omega))) (fun a d z1 z2 => (k1 a (11 + s) 0 d (by omega)).trans (cf a (11 + s) 0 d (by omega))) (fun a d z1 => (fx a (11 + s) d (by omega) (by omega) (by omega)).trans (cj a (11 + s) d z1 (by omega))) (fun i z1 _ => (mf 33 0 0 i (by omega)).trans (cf 33 0 0 i (by omega))) hBl⟩
/-! saving and restoring -/
def SC (s : Nat) (I I' : gI) : Prop := ∀ x y z u, ¬ (6 ≤ x ∧ x ≤ 12 ∧ y = 11 + s) → ¬ (x = 16 ∧ u = s) → I' x y z u = I x y z u
def SJ (s : Nat) (J J' : gJ) : Prop := ∀ x y u, ¬ ((x = 6 ∨ x = 10) ∧ y = 11 + s) → J' x y u = J x y u
theorem vp_nb : vp_nar .boolean (gi 1) = gi 1 := by decide
theorem c_save_b {s : Nat} (hs : s < 2) (hv : Vf f) (hR : Rst f I J 0) (k : ∀ I' J', SC s I I' → SJ s J J' → Rst f I' J' (11 + s) → I' 16 0 0 s = gi 1 → I' 6 0 0 0 = gi (f 0) → Q (.inl (.int (gi (f 0)))) I' J' B) : gC E 45 [.inr (6, 11 + s, 0), .inr (6, 0, 0)] I J B (fun v9 I10 J11 B12 => (vp_in (gi (s : Int)) 2 ∧ (Q (.inl (.int (I10 6 0 0 0))) (gUI I10 16 0 0 s (vp_nar .boolean (gi 1))) J11 B12))) X := by
  refine z_become (by omega) fun I2 J2 fs fj hb => ⟨gvp (by omega) (by omega) (by decide), ?_⟩
  have hR2 := hb f hv hR
  have e0 : I2 6 0 0 0 = gi (f 0) := (fs 6 0 0 0 (by omega)).trans hR.1.1
  rw [e0, vp_nb]
  refine k _ J2 (fun x y z u h1 h2 => ?_) (fun x y u h1 => fj x y u h1) (hR2.to (fun a d z1 z2 => if_neg (fun z => by omega)) (fun _ _ _ => rfl)) (if_pos ⟨rfl, rfl, rfl, rfl⟩) ((if_neg (fun z => absurd z.1 (by decide))).trans e0)
  rw [gUI_at, if_neg (fun z => h2 ⟨z.1, z.2.2.2⟩)]
  exact fs x y z u h1
theorem c_save (h1 : -2147483648 ≤ a) (h2 : a < 2147483648) (hv : Vf f) (hR : Rst f I J 0) (hB : Bk B) (k1 : ∀ s : Nat, s < 2 → a = s → ∀ I' J' B', SC s I I' → SJ s J J' → (∀ m, B m = true → B' m = true) → Bk B' → B' (11 + s + 17) = true → Rst f I' J' (11 + s) → I' 16 0 0 s = gi 1 → Q (.inl (.int (gi (f 0)))) I' J' B') (k2 : ¬ (0 ≤ a ∧ a < 2) → X 1 I J B) : gC E 108 [.inr (3, 0, 0), .inl (.int (gi a))] I J B Q X := by
  have h0 := hv.1
  refine e_X7_save ⟨⟨by decide, by decide⟩, z_rs hv hR ⟨⟨by decide, by decide⟩, z_ro h1 h2 (fun g1 g2 => ?_) k2⟩⟩
  obtain ⟨s, rfl⟩ : ∃ s : Nat, a = s := ⟨a.toNat, by omega⟩
  have ps : vp_in (gi (s : Int)) 2 := gvp (by omega) (by omega) (by decide)
  rw [gi_c (by omega) (by omega), gtn]
  refine ⟨ps, fun hb => ⟨ps, fun _ => ?_, fun z => by rw [hb] at z; cases z⟩, fun hb => ⟨rfl, 11 + s, ⟨by omega, by omega, (hB (11 + s) (by omega) (by omega)).trans hb⟩, ⟨by decide, by decide⟩, ps, rfl, ps, fun _ => ?_, fun z => ?_⟩⟩
  · exact c_save_b (by omega) hv hR fun I' J' sc sj r e1 e2 => k1 s (by omega) rfl I' J' B sc sj (fun _ z => z) hB hb r e1
  · have hBt : gUB (gUB B (11 + s)) (11 + s + 17) (11 + s + 17) = true := gUB_t.mpr (Or.inl rfl)
    refine c_save_b (by omega) hv (gnw_rst hR (by omega)) fun I' J' sc sj r e1 e2 => k1 s (by omega) rfl I' J' _ (fun x y z u z1 z2 => (sc x y z u z1 z2).trans (if_neg (fun z => z1 ⟨z.2.1, z.2.2, z.1⟩))) (fun x y u z1 => (sj x y u z1).trans ?_) (fun m hm => gUB_t.mpr (Or.inr (gUB_t.mpr (Or.inr hm)))) (hB.up (by omega) (by omega)) hBt r e1
    unfold gnwJ
    rw [if_neg (fun z => z1 ⟨Or.inl z.2.1, z.1⟩), if_neg (fun z => z1 ⟨Or.inr z.2, z.1⟩)]
  · rw [gUB_t.mpr (Or.inl rfl)] at z
    cases z
def SM (s : Nat) (I I' : gI) : Prop := ∀ x y z u, ¬ (x = 31 ∧ u = 0) → ¬ (x = 33 ∧ 408 * (9 + s) ≤ u ∧ u < 408 * (9 + s) + 408) → ¬ (x = 34 ∧ u = s) → I' x y z u = I x y z u
theorem m_save (h1 : -2147483648 ≤ a) (h2 : a < 2147483648) (hv : Vf f) (hM : Mrow f I) (hs : I 31 0 0 1 = gi 1) (k1 : ∀ s : Nat, s < 2 → a = s → ∀ I', SM s I I' → I' 31 0 0 0 = gi 0 → Mst f I' (9 + s) → I' 34 0 0 s = gi 1 → Q (.inl (.int (gi (f 0)))) I' J B) (k2 : ¬ (0 ≤ a ∧ a < 2) → ∀ I', QF I I' → I' 31 0 0 0 = gi 2 → ∀ r, Q (.inl (.int r)) I' J B) : gC E 252 [.inr (31, 0, 0), .inl (.int (gi a))] I J B Q X := by
  refine e_X8_save (z_ns1 hs fun I1 t g => ⟨fun z => absurd rfl z, fun _ => z_inr g (by decide) h1 h2 (by decide) (by decide) (by decide) (by decide) (fun g1 g2 => ⟨fun _ => ?_, fun z => absurd rfl z⟩) (fun g1 => ⟨fun z => absurd z (by decide), fun _ => k2 (by omega) _ t.up.q th_up _⟩)⟩)
  obtain ⟨s, rfl⟩ : ∃ s : Nat, a = s := ⟨a.toNat, by omega⟩
  rw [gi_add, show (9 : Int) + (s : Int) = ((9 + s : Nat) : Int) by omega]
  refine z_kp (by omega) (t.mrow hM) fun I2 f3 hS => ⟨gvp (by omega) (by omega) (by decide), gvp (by decide) (by decide) (by decide), ?_⟩
  rw [gi_c (by omega) (by omega), gtn, vp_nb, (f3 32 0 0 0 (fun z => absurd z.1 (by decide))).trans ((t.mrow hM) 0 (by decide))]
  refine k1 s (by omega) rfl _ (fun x y z u z1 z2 z3 => ?_) ((if_neg (fun z => absurd z.1 (by decide))).trans ((f3 31 0 0 0 (fun z => absurd z.1 (by decide))).trans g)) (fun q hq => (if_neg (fun z => absurd z.1 (by decide))).trans (hS q hq)) (if_pos ⟨rfl, rfl, rfl, rfl⟩)
  rw [gUI_at, if_neg (fun z => z3 ⟨z.1, z.2.2.2⟩), f3 x y z u z2]
  exact t x y z u z1
theorem c_restore (h1 : -2147483648 ≤ a) (h2 : a < 2147483648) (hC : Clh I J B c nx h) (hT : Slt I J B) (k1 : ∀ s : Nat, s < 2 → a = s → ∀ g, I 34 0 0 s = gi 1 → Vf g → Mst g I (9 + s) → ∀ I' J', CF I I' → CJ J J' → Rst g I' J' 0 → Clh I' J' B 0 nx h → Q (.inl (.int (gi (g 0)))) I' J' B) (k2 : ¬ (0 ≤ a ∧ a < 2) → X 1 I J B) (k3 : ∀ s : Nat, s < 2 → a = s → I 34 0 0 s = gi 0 → X 0 I J B) : gC E 109 [.inr (3, 0, 0), .inl (.int (gi a))] I J B Q X := by
  refine e_X7_restore ⟨⟨by decide, by decide⟩, z_ro h1 h2 (fun g1 g2 => ?_) k2⟩
  obtain ⟨s, rfl⟩ : ∃ s : Nat, a = s := ⟨a.toNat, by omega⟩
  have ps : vp_in (gi (s : Int)) 2 := gvp (by omega) (by omega) (by decide)
  rw [gi_c (by omega) (by omega), gtn]
  rcases hT s (by omega) with ⟨e1, e2⟩ | ⟨e1, e2, e3, g, hv, hR, hM⟩
  · rw [e1]
    exact ⟨ps, fun _ => ⟨ps, fun z => absurd rfl z, fun _ => ⟨⟨by decide, by decide⟩, k3 s (by omega) rfl e2⟩⟩, fun _ => ⟨⟨by decide, by decide⟩, k3 s (by omega) rfl e2⟩⟩
  · rw [e1]
    refine ⟨ps, fun _ => ⟨ps, fun _ => z_become (by omega) fun I2 J2 fs fj hb => e_X2_forget ?_, fun z => absurd z (by decide)⟩, fun z => by rw [e3] at z; cases z⟩
    have hR2 := hb g hv hR
    have hR3 : Rst g (gUI I2 13 0 0 2 (gi 0)) J2 0 := hR2.to (fun a d z1 z2 => if_neg (fun z => by omega)) (fun _ _ _ => rfl)
    show Q (.inl (.int ((gUI I2 13 0 0 2 (gi 0)) 6 0 0 0))) _ J2 B
    rw [hR3.1.1]
    obtain ⟨c1, c2, c3, c4, c5⟩ := hC
    exact k1 s (by omega) rfl g e2 hv hM _ J2 (fs.c.up (by decide)) fj.c hR3 ⟨if_pos ⟨rfl, rfl, rfl, rfl⟩, (if_neg (fun z => absurd z.2.2.2 (by decide))).trans ((fs 13 0 0 1 (by omega)).trans c2), by omega, c4, fun j hj => absurd hj (Nat.not_lt_zero j)⟩
theorem m_restore (h1 : -2147483648 ≤ a) (h2 : a < 2147483648) (k1 : ∀ s : Nat, s < 2 → a = s → I 34 0 0 s = gi 1 → ∀ g, Mst g I (9 + s) → ∀ I', MF I I' → I' 31 0 0 0 = gi 0 → Mrow g I' → I' 31 0 0 4 = gi 0 → Q (.inl (.int (gi (g 0)))) I' J B) (hg : ∀ s : Nat, s < 2 → (I 34 0 0 s = gi 0 ∨ (I 34 0 0 s = gi 1 ∧ ∃ g, Mst g I (9 + s)))) (k2 : ¬ (0 ≤ a ∧ a < 2) → ∀ I', QF I I' → I' 31 0 0 0 = gi 1 → ∀ r, Q (.inl (.int r)) I' J B) (k3 : ∀ s : Nat, s < 2 → a = s → I 34 0 0 s = gi 0 → ∀ I', QF I I' → I' 31 0 0 0 = gi 2 → ∀ r, Q (.inl (.int r)) I' J B) : gC E 253 [.inr (31, 0, 0), .inl (.int (gi a))] I J B Q X := by
  have t0 : T0 I (gUI I 31 0 0 0 (gi 0)) := T0.rf.up
  refine e_X8_restore (z_inr th_up (by decide) h1 h2 (by decide) (by decide) (by decide) (by decide) (fun g1 g2 => ⟨fun z => absurd rfl z, fun _ => ?_⟩) (fun g1 => ⟨fun _ => k2 (by omega) _ t0.up.q th_up _, fun z => absurd z (by decide)⟩))
  obtain ⟨s, rfl⟩ : ∃ s : Nat, a = s := ⟨a.toNat, by omega⟩
  have ps : vp_in (gi (s : Int)) 2 := gvp (by omega) (by omega) (by decide)
  rw [gi_c (by omega) (by omega), gtn, show (gUI I 31 0 0 0 (gi 0)) 34 0 0 s = I 34 0 0 s from if_neg (fun z => absurd z.1 (by decide))]
  rcases hg s (by omega) with e1 | ⟨e1, g, hM⟩
  · rw [e1]
    exact ⟨ps, fun z => absurd rfl z, fun _ => z_rf1 th_up (by decide) ⟨fun z => absurd z (by decide), fun _ => k3 s (by omega) rfl e1 _ t0.up.q th_up _⟩⟩
  · rw [e1]
    refine ⟨ps, fun _ => z_rf0 th_up ⟨fun _ => ?_, fun z => absurd rfl z⟩, fun z => absurd z (by decide)⟩
    rw [gi_add, show (9 : Int) + (s : Int) = ((9 + s : Nat) : Int) by omega]
    refine z_ft (by omega) (fun q hq => (if_neg (fun z => absurd z.1 (by decide))).trans (hM q hq) : Mst g (gUI I 31 0 0 0 (gi 0)) (9 + s)) fun I2 f3 hM2 => ⟨gvp (by decide) (by decide) (by decide), ?_⟩
    rw [hM2 0 (by decide)]
    refine k1 s (by omega) rfl e1 g hM _ (fun x y z u hk => ?_) ((if_neg (fun z => absurd z.2.2.2 (by decide))).trans ((f3 31 0 0 0 (by decide)).trans th_up)) (fun k hk => (if_neg (fun z => absurd z.1 (by decide))).trans (hM2 k hk)) (if_pos ⟨rfl, rfl, rfl, rfl⟩)
    rw [gUI_at, if_neg (fun z => by omega), f3 x y z u (by omega)]
    exact t0 x y z u (by omega)
end YO
