/-! ===== the reference's lines, on ===== -/
section YX2
variable {E : gEn} {Q : gQt} {X : gXt} {I : gI} {J : gJ} {B : gB} {c w n e p st m bb : Nat} {t : Nat → Int} {lo hi x v : Int} {k : Tok} {f : Nat → Int} {tD : Nat → Bool} {s : PS}
/-- the line of one entry of a list -/
theorem m_part {r l : Nat} (hb : Tb t n) (hR : RB t n s.2.1 s.2.2.1 s.2.2.2 I) (hk : Tkk n s.1) (hK : Mt s.1 I) (hN : 1 ≤ s.2.1 0) (hN7 : s.2.1 0 ≤ 7) (hl : l ≤ 20) (hr : r ≤ 300) (k : ∀ I', FR2 I I' → PM t n (partL t n r l s) I' → Q (.inl .null) I' J B) : gC E 154 [.inr (31, 0, 0), .inl (.int (gi r)), .inl (.int (gi l))] I J B Q X := by
  obtain ⟨ks, f, tD, bb⟩ := s
  refine e_X8_partLine (m_go hb hR.1 hR.2.2.2.2 hK.2.1 hk.2.1 fun I1 f1 hK1 => ?_)
  change Mt (nx t n ks) I1 at hK1
  have hR1 := hR.fm f1
  change RB t n f tD bb I1 at hR1
  change 1 ≤ f 0 at hN
  change f 0 ≤ 7 at hN7
  change Tkk n ks at hk
  show _ ∧ _
  rw [hR1.2.1 0 (by decide), gi_sub]
  unfold partL nm at k
  have en : nk t n (nx t n ks) false = nx t n ks := if_neg (fun h => absurd h.1 (by decide))
  refine ⟨gvp (by decide) (by decide) (by decide), m_nh (t := t) (nx_ok hk) hK1 (by omega) (by omega) (by omega) (by omega) hR1.2.2.2.2 (fun z => ?_) (fun er he z => ?_)⟩
  · change ner t n (nx t n ks) false 0 (f 0 - 1) = 0 at z
    have hq := (ner0 z).2
    have hnk := nk_ok (t := t) (sg := false) (nx_ok (t := t) hk)
    have a1 : I1 31 0 0 12 = gi (nk t n (nx t n ks) false).1 := by rw [en]; exact hK1.1
    have a2 : I1 31 0 0 11 = gi (nk t n (nx t n ks) false).2.1 := by rw [en]; exact hK1.2.1
    rw [if_pos (show ner t n (nx t n (ks, f, tD, bb).1) false 0 ((ks, f, tD, bb).2.1 0 - 1) = 0 from z)] at k
    change ∀ I', FR2 I I' → PM t n (if tD (l + (nv t n (nx t n ks) false).toNat) = true then .inl (3, (nk t n (nx t n ks) false).1) else nm t n (nx t n (nk t n (nx t n ks) false)) true (-999) 999 fun k2 v => .inr (nx t n k2, upF f (r + (nv t n (nx t n ks) false).toNat) v, fillB tD (l + (nv t n (nx t n ks) false).toNat) 1, bb)) I' → Q (.inl .null) I' J B at k
    generalize nv t n (nx t n ks) false = q at hq k
    generalize nk t n (nx t n ks) false = k1 at a1 a2 hnk k
    obtain ⟨i, rfl⟩ : ∃ i : Nat, q = i := ⟨q.toNat, by omega⟩
    rw [gtn] at k
    have hp : gi (l : Int) + gi (i : Int) = gi ((l + i : Nat) : Int) := gi_add _ _
    have hp2 : gi (r : Int) + gi (i : Int) = gi ((r + i : Nat) : Int) := gi_add _ _
    have eT : I1 37 0 0 (l + i) = gi (if tD (l + i) = true then 1 else 0) := hR1.2.2.1 _ (by omega)
    show (_ → _) ∧ _
    rw [hp, hp2, gi_c (by omega) (by omega), gi_c (by omega) (by omega), gtn, gtn, eT]
    refine ⟨fun z => absurd hR1.2.2.2.2 z, fun _ => ⟨gvp (by omega) (by omega) (by decide), fun z3 => ?_, fun z3 => ?_⟩⟩
    · have hA : ¬ tD (l + i) = true := fun y2 => by
        rw [if_pos y2] at z3
        exact absurd z3 (by decide)
      rw [if_neg hA] at k
      unfold nm at k
      refine m_tl1 hb hR1.1 a2 hnk.2.1 (by decide) (by decide) (by decide) (by decide) hR1.2.2.2.2 (fun z4 I3 f3 hK3 => ⟨gvp (by omega) (by omega) (by decide), gvp (by omega) (by omega) (by decide), ?_⟩) (fun er he hl z4 I3 f3 a3 => ?_)
      · rw [if_pos (show ner t n (nx t n k1) true (-999) 999 = 0 from z4)] at k
        rw [nar1]
        exact k _ (((f1.tr f3).r2.up (by omega)).up (by omega)) ⟨(hR1.fm f3).put (by omega) fun j hj => rfl, nx_ok (nk_ok (tokF_ok hnk.2.1)), hK3.put⟩
      · rw [if_neg (by change ner t n (nx t n k1) true (-999) 999 = er at z4; rw [z4]; exact he)] at k
        change ner t n (nx t n k1) true (-999) 999 = er at z4
        rw [z4] at k
        exact k _ ((f1.tr f3).r2.tr WR.r2) (PM.er (by omega) (by omega) a3)
    · have hA : tD (l + i) = true := by
        by_cases y : tD (l + i) = true
        · exact y
        · rw [if_neg y] at z3; exact absurd rfl z3
      rw [if_pos hA] at k
      refine e_X8_fails ⟨fun z => absurd hR1.2.2.2.2 z, fun _ => ?_⟩
      have e15 : ¬ (WR I1 3) 31 0 0 15 = gi 0 := by rw [wr15]; decide
      exact m_tl0 (by decide) (by decide) (by decide) (by decide) e15 (k _ (f1.r2.tr WR.r2) (PM.er (by decide) (by decide) a1))
  · change ner t n (nx t n ks) false 0 (f 0 - 1) = er at z
    have hle : er ≤ 2 := by rw [← z]; exact ner_b
    rw [if_neg (by show ¬ ner t n (nx t n ks) false 0 (f 0 - 1) = 0; rw [z]; exact he)] at k
    change ∀ I', FR2 I I' → PM t n (.inl (ner t n (nx t n ks) false 0 (f 0 - 1), (nk t n (nx t n ks) false).1)) I' → Q (.inl .null) I' J B at k
    rw [z, en] at k
    have e15 : ¬ (WR I1 er) 31 0 0 15 = gi 0 := by rw [wr15]; exact gi_n0 (by omega) (by omega)
    refine And.intro (fun _ => m_tl0 (by decide) (by decide) (by decide) (by decide) e15 (k _ (f1.r2.tr WR.r2) (PM.er (by omega) (by omega) hK1.1))) (fun z => absurd z e15)
/-! a band -/
theorem WR_36 {er q : Nat} : (WR I er) 36 0 0 q = I 36 0 0 q := by
  unfold WR
  rw [gUI_at, if_neg (by omega), gUI_at, if_neg (by omega)]
theorem RB.eqB {tD' : Nat → Bool} {f' : Nat → Int} (h : RB t n f tD bb I) (h1 : ∀ j, tD' j = tD j) (h2 : ∀ j, f' j = f j) : RB t n f' tD' bb I := by
  rw [show tD' = tD from funext h1, show f' = f from funext h2]
  exact h
theorem RB.bnd (h : RB t n f tD bb I) (hb8 : bb < 8) : RB t n f tD (bb + 1) (gUI I 31 0 0 19 (I 31 0 0 19 + gi 1)) := by
  obtain ⟨g1, g2, g3, g4, g5⟩ := h
  refine ⟨⟨(if_neg (by omega)).trans g1.1, fun q hq => (if_neg (by omega)).trans (g1.2 q hq)⟩, fun q hq => (if_neg (by omega)).trans (g2 q hq), fun j hj => (if_neg (by omega)).trans (g3 j hj), ?_, (if_neg (by omega)).trans g5⟩
  rw [gu_s, g4, gi_add]
  rfl
theorem Mt.bnd {y : Int32} (h : Mt k I) : Mt k (gUI I 31 0 0 19 y) := by
  obtain ⟨g1, g2, g3, g4⟩ := h
  exact ⟨(if_neg (by omega)).trans g1, (if_neg (by omega)).trans g2, (if_neg (by omega)).trans g3, fun z => (if_neg (by omega)).trans (g4 z)⟩
/-- behind an error -/
theorem m_b106e {y2 y3 y4 : Int32} (hw : ¬ I 31 0 0 15 = gi 0) (k : Q (.inl .null) (gUI I 31 0 0 19 (I 31 0 0 19 + gi 1)) J B) : gG E 153 106 [(0, .inr (31, 0, 0)), (2, .inl (.int y2)), (3, .inl (.int y3)), (4, .inl (.int y4))] [] I J B c w Q X :=
  s_X8_bandLine_106 ⟨fun _ => k, fun _ => ⟨fun _ => k, fun z => absurd z hw⟩⟩
theorem m_b55e {y1 y2 y3 : Int32} (hw : ¬ I 31 0 0 15 = gi 0) (k : Q (.inl .null) (gUI I 31 0 0 19 (I 31 0 0 19 + gi 1)) J B) : gG E 153 55 [(0, .inr (31, 0, 0)), (1, .inl (.int y1)), (2, .inl (.int y2)), (3, .inl (.int y3))] [] I J B c w Q X := by
  have g : gC E 145 [.inr (31, 0, 0)] I J B (fun _ I J B => gC E 151 [.inr (31, 0, 0), .inl (.int (gi (-50))), .inl (.int (gi 50))] I J B (fun v I J B => gvi v fun r => gG E 153 106 [(0, .inr (31, 0, 0)), (2, .inl (.int y2)), (3, .inl (.int r)), (4, .inl (.int y1))] [] I J B c w Q X) X) X :=
    m_go0 hw (m_ts0 (by decide) (by decide) (by decide) (by decide) hw (m_b106e hw k))
  exact s_X8_bandLine_55 ⟨fun _ => g, fun _ => ⟨fun _ => g, fun z => absurd z hw⟩⟩
theorem m_b106 (p0 : Nat) (C : Nat) (hlo : lo + 6 = (p0 : Int)) (hC : p0 + C ≤ 13) (hbb : bb < 8) (k : Tok) (hv : -50 ≤ v ∧ v ≤ 50) (kk : ∀ I', FR2 I I' → RB t n (fillF f p0 C v) (fillB tD p0 C) (bb + 1) I' → Mt k I' → Q (.inl .null) I' J B) : ∀ (j i : Nat) (I1 : gI), C - i = j → i ≤ C → FR2 I I1 → RB t n (fillF f p0 i v) (fillB tD p0 i) bb I1 → Mt k I1 → gG E 153 106 [(0, .inr (31, 0, 0)), (2, .inl (.int (gi (lo + (C : Int) - 1)))), (3, .inl (.int (gi v))), (4, .inl (.int (gi (lo + (i : Int)))))] [] I1 J B c w Q X := by
  intro j
  induction j with
  | zero =>
    intro i I1 h1 h2 fr hR hK
    have hi : i = C := by omega
    subst hi
    have g := kk _ (fr.up31 (by omega)) (hR.bnd hbb) hK.bnd
    exact s_X8_bandLine_106 ⟨fun _ => g, fun z => by rw [gi_lt (by omega) (by omega) (by omega) (by omega)] at z; omega⟩
  | succ j ih =>
    intro i I1 h1 h2 fr hR hK
    refine s_X8_bandLine_106 ⟨fun z => ?_, fun z => ⟨fun z2 => absurd hR.2.2.2.2 z2, fun _ => ?_⟩⟩
    · rw [gi_lt (by omega) (by omega) (by omega) (by omega)] at z; omega
    · have e1 : gi (lo + (i : Int)) + gi 6 = gi ((p0 + i : Nat) : Int) := by rw [gi_add]; exact congrArg gi (by omega)
      have e2 : gi 8 + gi (lo + (i : Int)) = gi ((2 + p0 + i : Nat) : Int) := by rw [gi_add]; exact congrArg gi (by omega)
      have e3 : gi (lo + (i : Int)) + gi 1 = gi (lo + ((i + 1 : Nat) : Int)) := by rw [gi_add]; exact congrArg gi (by omega)
      rw [e1, e2, e3, gi_c (by omega) (by omega), gi_c (by omega) (by omega), gtn, gtn, nar1]
      refine ⟨gvp (by omega) (by omega) (by decide), gvp (by omega) (by omega) (by decide), ?_⟩
      refine ih (i + 1) _ (by omega) (by omega) ((fr.up (by omega)).up (by omega)) ?_ hK.put
      refine (hR.put (p := p0 + i) (r := 2 + p0 + i) (v := v) (f2 := fillF f p0 (i + 1) v) (by omega) (fun j hj => ?_)).eqB (fun j => ?_) (fun j => rfl)
      · unfold fillF
        by_cases y : j = 2 + p0 + i
        · rw [if_pos (by omega), if_pos y]
        · rw [if_neg y]
          by_cases y2 : 2 + p0 ≤ j ∧ j < 2 + p0 + i
          · rw [if_pos (by omega), if_pos y2]
          · rw [if_neg (by omega), if_neg y2]
      · unfold fillB
        by_cases y : j = p0 + i
        · rw [if_pos (by omega), if_pos (by omega)]
        · by_cases y2 : p0 ≤ j ∧ j < p0 + i
          · rw [if_pos (by omega), if_neg (by omega), if_pos y2]
          · rw [if_neg (by omega), if_neg (by omega), if_neg y2]
theorem m_b55 (hb : Tb t n) (p0 : Nat) (C : Nat) (hC1 : 1 ≤ C) (hlo : lo + 6 = (p0 : Int)) (hC : p0 + C ≤ 13) (hbb : bb < 8) (k2 : Tok) (hk2 : Tkk n k2) (hR : RB t n f tD bb I) (a1 : I 31 0 0 12 = gi k2.1) (a2 : I 31 0 0 11 = gi k2.2.1) (kk : ∀ I', FR2 I I' → PM t n (rngV t n f tD (bb + 1) k2 p0 C) I' → Q (.inl .null) I' J B) : ∀ (j i : Nat), C - i = j → i ≤ C → anB tD p0 C = anB tD (p0 + i) (C - i) → gG E 153 55 [(0, .inr (31, 0, 0)), (1, .inl (.int (gi lo))), (2, .inl (.int (gi (lo + (C : Int) - 1)))), (3, .inl (.int (gi (lo + (i : Int)))))] [] I J B c w Q X := by
  intro j
  induction j with
  | zero =>
    intro i h1 h2 e
    have hi : i = C := by omega
    subst hi
    rw [Nat.sub_self] at e
    have e0 : anB tD p0 i = false := e
    unfold rngV at kk
    rw [e0, if_neg (by decide)] at kk
    unfold nm at kk
    refine s_X8_bandLine_55 ⟨fun _ => ?_, fun z => by rw [gi_lt (by omega) (by omega) (by omega) (by omega)] at z; omega⟩
    refine m_go hb hR.1 hR.2.2.2.2 a2 hk2.2.1 fun I1 f1 hK1 => ?_
    show gC _ _ _ _ _ _ _ _
    have hR1 := hR.fm f1
    change Mt (nx t n k2) I1 at hK1
    refine m_ts hb hR1.1 (nx_ok hk2) hK1 (by decide) (by decide) (by decide) (by decide) hR1.2.2.2.2 (fun z I2 f2 hK2 => ?_) (fun er he hl z I2 f2 a => ?_)
    · rw [if_pos z] at kk
      show gG _ _ _ _ _ _ _ _ _ _ _ _
      have g := m_b106 (E := E) (Q := Q) (X := X) (I := I2) (J := J) (B := B) (c := c) (w := w) (t := t) (n := n) (f := f) (tD := tD) p0 i hlo hC hbb (nx t n (nk t n (nx t n k2) true)) (ner0 z).2 (fun I3 f3 hR3 hK3 => kk I3 ((f1.tr f2).r2.tr f3) ⟨hR3, nx_ok (nk_ok (nx_ok hk2)), hK3⟩) i 0 I2 rfl (Nat.zero_le _) FR2.rf ((hR1.fm f2).eqB (fun j => if_neg (by omega)) (fun j => if_neg (by omega))) hK2
      rw [show lo + ((0 : Nat) : Int) = lo by omega] at g
      exact g
    · rw [if_neg (by rw [z]; exact he), z] at kk
      have e15 : ¬ (WR I2 er) 31 0 0 15 = gi 0 := by rw [wr15]; exact gi_n0 (by omega) (by omega)
      exact m_b106e e15 (kk _ (((f1.tr f2).r2.tr WR.r2).up31 (by omega)) ⟨by omega, by omega, (gu_o (by decide)).trans wr15, (gu_o (by decide)).trans (wr16.trans a)⟩)
  | succ j ih =>
    intro i h1 h2 e
    have e1 : gi (lo + (i : Int)) + gi 6 = gi ((p0 + i : Nat) : Int) := by rw [gi_add]; exact congrArg gi (by omega)
    have e3 : gi (lo + (i : Int)) + gi 1 = gi (lo + ((i + 1 : Nat) : Int)) := by rw [gi_add]; exact congrArg gi (by omega)
    have eT : I 37 0 0 (p0 + i) = gi (if tD (p0 + i) = true then 1 else 0) := hR.2.2.1 _ (by omega)
    rw [show C - i = (C - (i + 1)) + 1 by omega] at e
    have e4 : anB tD p0 C = (tD (p0 + i) || anB tD (p0 + (i + 1)) (C - (i + 1))) := e
    refine s_X8_bandLine_55 ⟨fun z => by rw [gi_lt (by omega) (by omega) (by omega) (by omega)] at z; omega, fun _ => ⟨fun z2 => absurd hR.2.2.2.2 z2, fun _ => ?_⟩⟩
    rw [e1, e3, gi_c (by omega) (by omega), gtn, eT]
    refine ⟨gvp (by omega) (by omega) (by decide), fun z3 => ?_, fun z3 => ?_⟩
    · have y : ¬ tD (p0 + i) = true := fun y => by rw [if_pos y] at z3; exact absurd z3 (by decide)
      rw [Bool.eq_false_iff.mpr y, Bool.false_or] at e4
      exact ih (i + 1) (by omega) (by omega) e4
    · have y : tD (p0 + i) = true := by
        by_cases y : tD (p0 + i) = true
        · exact y
        · rw [if_neg y] at z3; exact absurd rfl z3
      rw [y, Bool.true_or] at e4
      unfold rngV at kk
      rw [e4, if_pos rfl] at kk
      refine e_X8_fails ⟨fun z => absurd hR.2.2.2.2 z, fun _ => ?_⟩
      have e15 : ¬ (WR I 3) 31 0 0 15 = gi 0 := by rw [wr15]; decide
      exact m_b55e e15 (kk _ (WR.r2.up31 (by omega)) ⟨by decide, by decide, (gu_o (by decide)).trans wr15, (gu_o (by decide)).trans (wr16.trans a1)⟩)
theorem m_band (hb : Tb t n) (hR : RB t n s.2.1 s.2.2.1 s.2.2.2 I) (hk : Tkk n s.1) (hK : Mt s.1 I) (hN : 1 ≤ s.2.1 0) (hN7 : s.2.1 0 ≤ 7) (hbb : s.2.2.2 ≤ 8) (k : ∀ I', FR2 I I' → PM t n (bandL t n s) I' → Q (.inl .null) I' J B) : gC E 153 [.inr (31, 0, 0)] I J B Q X := by
  obtain ⟨ks, f, tD, bb⟩ := s
  change RB t n f tD bb I at hR
  change 1 ≤ f 0 at hN
  change f 0 ≤ 7 at hN7
  change Tkk n ks at hk
  change bb ≤ 8 at hbb
  unfold bandL at k
  refine e_X8_bandLine ⟨fun z => ?_, fun z => ?_⟩
  · rw [hR.2.2.2.1, gi_eq (by omega) (by omega) (by omega) (by omega)] at z
    rw [if_neg (show ¬ bb = 8 by omega)] at k
    unfold nm at k
    refine m_go hb hR.1 hR.2.2.2.2 hK.2.1 hk.2.1 fun I1 f1 hK1 => ?_
    change Mt (nx t n ks) I1 at hK1
    have hR1 := hR.fm f1
    show _ ∧ _
    rw [hR1.2.1 0 (by decide), gi_sub, gi_sub]
    refine ⟨gvp (by decide) (by decide) (by decide), gvp (by decide) (by decide) (by decide), m_ts hb hR1.1 (nx_ok hk) hK1 (by omega) (by omega) (by omega) (by omega) hR1.2.2.2.2 (fun z I2 f2 hK2 => ?_) (fun er he hl z I2 f2 a => ?_)⟩
    · have hq := (ner0 z).2
      rw [if_pos (show ner t n (nx t n (ks, f, tD, bb).1) true (1 - (ks, f, tD, bb).2.1 0) ((ks, f, tD, bb).2.1 0 - 1) = 0 from z)] at k
      change ∀ I', FR2 I I' → PM t n (nm t n (nx t n (nk t n (nx t n ks) true)) true (nv t n (nx t n ks) true) (f 0 - 1) fun k2 hi => rngV t n f tD (bb + 1) k2 (nv t n (nx t n ks) true + 6).toNat (hi + 1 - nv t n (nx t n ks) true).toNat) I' → Q (.inl .null) I' J B at k
      have hnk := nk_ok (t := t) (sg := true) (nx_ok (t := t) hk)
      generalize nv t n (nx t n ks) true = lo at hq k
      generalize nk t n (nx t n ks) true = k1 at hK2 hnk k
      have hR2 := hR1.fm f2
      show _ ∧ _
      rw [hR2.2.1 0 (by decide), gi_sub]
      unfold nm at k
      refine ⟨gvp (by decide) (by decide) (by decide), m_sh hb hR2.1 (nx_ok hnk) hK2 (by omega) (by omega) (by omega) (by omega) hR2.2.2.2.2 (fun z2 I3 f3 a1 a2 => ?_) (fun er he z2 I3 f3 a1 => ?_)⟩
      · have hq2 := (ner0 z2).2
        rw [if_pos z2] at k
        change ∀ I', FR2 I I' → PM t n (rngV t n f tD (bb + 1) (nk t n (nx t n k1) true) (lo + 6).toNat (nv t n (nx t n k1) true + 1 - lo).toNat) I' → Q (.inl .null) I' J B at k
        have hnk2 := nk_ok (t := t) (sg := true) (nx_ok (t := t) hnk)
        generalize nv t n (nx t n k1) true = hi at hq2 k
        generalize nk t n (nx t n k1) true = k2 at a1 a2 hnk2 k
        have g := m_b55 (E := E) (Q := Q) (X := X) (J := J) (B := B) (c := 0) (w := 0) (lo := lo) hb (lo + 6).toNat (hi + 1 - lo).toNat (by omega) (by omega) (by omega) (by omega) k2 hnk2 (hR2.fm f3) a1 a2 (fun I4 f4 hP => k I4 ((f1.tr (f2.tr f3)).r2.tr f4) hP) _ 0 rfl (Nat.zero_le _) rfl
        rw [show lo + ((hi + 1 - lo).toNat : Int) - 1 = hi by omega, show lo + ((0 : Nat) : Int) = lo by omega] at g
        exact g
      · have hle : er ≤ 2 := by rw [← z2]; exact ner_b
        rw [if_neg (by rw [z2]; exact he), z2] at k
        have e15 : ¬ (WR I3 er) 31 0 0 15 = gi 0 := by rw [wr15]; exact gi_n0 (by omega) (by omega)
        exact m_b55e e15 (k _ (((f1.tr (f2.tr f3)).r2.tr WR.r2).up31 (by omega)) ⟨by omega, by omega, (gu_o (by decide)).trans wr15, (gu_o (by decide)).trans (wr16.trans a1)⟩)
    · change ner t n (nx t n ks) true (1 - f 0) (f 0 - 1) = er at z
      rw [if_neg (by show ¬ ner t n (nx t n ks) true (1 - f 0) (f 0 - 1) = 0; rw [z]; exact he)] at k
      change ∀ I', FR2 I I' → PM t n (.inl (ner t n (nx t n ks) true (1 - f 0) (f 0 - 1), (nk t n (nx t n ks) true).1)) I' → Q (.inl .null) I' J B at k
      rw [z] at k
      have e15 : ¬ (WR I2 er) 31 0 0 15 = gi 0 := by rw [wr15]; exact gi_n0 (by omega) (by omega)
      have e36 : (WR I2 er) 36 0 0 0 = gi (f 0) := (WR_36).trans ((hR1.fm f2).2.1 0 (by decide))
      show _ ∧ _
      rw [e36, gi_sub]
      exact ⟨gvp (by decide) (by decide) (by decide), m_sh0 (by omega) (by omega) (by omega) (by omega) e15 (m_b55e e15 (k _ (((f1.tr f2).r2.tr WR.r2).up31 (by omega)) ⟨by omega, by omega, (gu_o (by decide)).trans wr15, (gu_o (by decide)).trans (wr16.trans a)⟩))⟩
  · rw [hR.2.2.2.1, gi_eq (by omega) (by omega) (by omega) (by omega)] at z
    rw [if_pos (show bb = 8 by omega)] at k
    refine e_X8_fails ⟨fun z => absurd hR.2.2.2.2 z, fun _ => ?_⟩
    have e15 : ¬ (WR I 4) 31 0 0 15 = gi 0 := by rw [wr15]; decide
    have e36 : (WR I 4) 36 0 0 0 = gi (f 0) := WR_36.trans (hR.2.1 0 (by decide))
    refine m_go0 e15 ?_
    show _ ∧ _ ∧ gC E 151 [.inr (31, 0, 0), .inl (.int (gi 1 - (WR I 4) 36 0 0 0)), .inl (.int ((WR I 4) 36 0 0 0 - gi 1))] (WR I 4) J B _ X
    rw [e36, gi_sub, gi_sub]
    refine ⟨gvp (by decide) (by decide) (by decide), gvp (by decide) (by decide) (by decide), m_ts0 (by omega) (by omega) (by omega) (by omega) e15 ?_⟩
    show _ ∧ gC E 150 [.inr (31, 0, 0), .inl (.int (gi (1 - f 0))), .inl (.int ((WR I 4) 36 0 0 0 - gi 1))] (WR I 4) J B _ X
    rw [e36, gi_sub]
    exact ⟨gvp (by decide) (by decide) (by decide), m_sh0 (by omega) (by omega) (by omega) (by omega) e15 (m_b55e e15 (k _ (WR.r2.up31 (by omega)) ⟨by decide, by decide, (gu_o (by decide)).trans wr15, (gu_o (by decide)).trans (wr16.trans hK.1)⟩))⟩
end YX2
