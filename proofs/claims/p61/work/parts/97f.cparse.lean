/-! ===== the class's parse ===== -/
def FPz (I I' : gI) : Prop := ∀ a b c d, ¬ (a = 4 ∧ (d = 1 ∨ (3 ≤ d ∧ d ≤ 13))) → ¬ (6 ≤ a ∧ a ≤ 12 ∧ b = 2) → I' a b c d = I a b c d
section YE
variable {E : gEn} {Q : gQt} {X : gXt} {I : gI} {J : gJ} {B : gB} {c w n e p m bb nb : Nat} {t : Nat → Int} {lo hi v a : Int} {k : Tok} {f : Nat → Int} {tD : Nat → Bool} {s : PS} {x y : Int32}
theorem FPz.rf : FPz I I := fun _ _ _ _ _ _ => rfl
theorem FPz.tr {I' I2 : gI} (h : FPz I I') (h2 : FPz I' I2) : FPz I I2 := fun a b c d h3 h4 => (h2 a b c d h3 h4).trans (h a b c d h3 h4)
theorem FC.pz {I' : gI} (h : FC I I') : FPz I I' := fun a b c d z1 z2 => h a b c d (by omega) z2
theorem CB.put0 {d : Nat} (h : CB t n f tD bb I) (hd : d < 2) : CB t n (upF f d v) tD bb (gUI I 6 2 0 d (gi v)) := by
  obtain ⟨g1, g2, g3, g4, g5, g6⟩ := h
  obtain ⟨r1, r2, r3, r4, r5, r6⟩ := g2
  have hn : ∀ m, m ≠ d → upF f d v m = f m := fun m hm => if_neg hm
  have he : ∀ m, m = d → upF f d v m = v := fun m hm => if_pos hm
  refine ⟨⟨(if_neg (by omega)).trans g1.1, fun q hq => (congrArg (· &&& gi 255) (if_neg (by omega))).trans (g1.2 q hq)⟩, ⟨?_, ?_, fun j hj => ?_, fun j hj => ?_, fun j hj => ?_, ?_⟩, ?_, ?_, (if_neg (by omega)).trans g5, (if_neg (by omega)).trans g6⟩
  · rw [gUI_at]
    by_cases z : 0 = d
    · rw [if_pos ⟨rfl, rfl, rfl, z⟩, he _ z]
    · rw [if_neg (fun y => z y.2.2.2), hn _ z]; exact r1
  · rw [gUI_at]
    by_cases z : 1 = d
    · rw [if_pos ⟨rfl, rfl, rfl, z⟩, he _ z]
    · rw [if_neg (fun y => z y.2.2.2), hn _ z]; exact r2
  · rw [hn _ (by omega)]; exact (if_neg (by omega)).trans (r3 j hj)
  · rw [hn _ (by omega)]; exact (if_neg (by omega)).trans (r4 j hj)
  · rw [hn _ (by omega)]; exact (if_neg (by omega)).trans (r5 j hj)
  · rw [hn _ (by omega)]; exact (if_neg (by omega)).trans r6
  · rw [gUI_at, if_neg (by omega)]; exact g3
  · rw [gUI_at, if_neg (by omega)]; exact g4
theorem tk2 (hk : Tkk n k) (hK : Tk k I) {b : Nat} (hb : b ≤ 5) : (I 4 0 0 6 = gi b) = (k.2.2.1 = b) := by
  have g3 := hk.2.2.1
  rw [hK.2.2.1, gi_k (by omega) (by omega)]
theorem z_head (hb : Tb t n) (hR : CB t n (fun _ => 0) (fun _ => false) 0 I) (hK : Tk (tokF t n 0) I) (k1 : ∀ s : PS, Vp s → Tkk n s.1 → (s.1.2.2.1 ≠ 0 → 0 < s.1.2.1) → parseF t n = loopP t n 701 s → ∀ I', FC I I' → CB t n s.2.1 s.2.2.1 s.2.2.2 I' → Tk s.1 I' → Q (.inl (.int (gi 1))) I' J B) (k0 : ∀ er pos, parseF t n = .inl (er, pos) → ∀ I', FC I I' → I' 4 0 0 3 = gi er → I' 4 0 0 4 = gi pos → Q (.inl (.int (gi 0))) I' J B) : gC E 23 [.inr (4, 0, 0)] I J B Q X := by
  have hk := tokF_ok (t := t) (Nat.zero_le n)
  unfold parseF at k1 k0
  generalize tokF t n 0 = ka at hK hk k1 k0
  refine e_X3_readHead (z_isW hb hR.1 (by decide) hk hK (fun z => And.intro (fun _ => ?_) (fun y => absurd y g10)) (fun z => And.intro (fun y => absurd rfl y) (fun _ => z_fl1 ?_)))
  · rw [if_pos z] at k1 k0
    refine z_adv hb hR.1 hK.2.1 hk.2.1 fun I1 f1 hK1 => ?_
    change Tk (nx t n ka) I1 at hK1
    have hk1 := nx_ok (t := t) hk
    have hR1 := hR.f4 f1
    generalize nx t n ka = kb at hK1 hk1 k1 k0
    have en : nk t n kb false = kb := if_neg (fun h => absurd h.1 (by decide))
    have ev : nv t n kb false = kb.2.2.2 := if_neg (fun h => absurd h.1 (by decide))
    unfold head1 at k1 k0
    show gC _ _ _ _ _ _ _ _
    refine z_rn false hb hR1.1 hk1 hK1 (by decide) (by decide) (by decide) (by decide) (fun z2 I2 f2 a4 a7 a8 => And.intro (fun _ => ?_) (fun y => absurd y g10)) (fun er he z2 I2 f2 a3 a4 => And.intro (fun y => absurd rfl y) (fun _ => ⟨Or.inl rfl, ?_⟩))
    · rw [if_pos z2] at k1 k0
      have hN := (ner0 z2).2
      rw [ev] at hN a8
      rw [en] at a7
      rw [a8]
      have hR2 : CB t n (upF (fun _ => 0) 0 kb.2.2.2) (fun _ => false) 0 (gUI I2 6 2 0 0 (gi kb.2.2.2)) := (hR1.f4 f2).put0 (by decide)
      have fc2 : FC I (gUI I2 6 2 0 0 (gi kb.2.2.2)) := (f1.tr f2).fc.up2 (by omega)
      generalize kb.2.2.2 = N at hN hR2 fc2 k1 k0
      refine z_adv hb hR2.1 ((if_neg (by omega)).trans a7) hk1.2.1 fun I3 f3 hK3 => ?_
      change Tk (nx t n kb) I3 at hK3
      have hk3 := nx_ok (t := t) hk1
      have hR3 := hR2.f4 f3
      generalize nx t n kb = kc at hK3 hk3 k1 k0
      unfold head2 at k1 k0
      show gC _ _ _ _ _ _ _ _
      refine z_isW hb hR3.1 (by decide) hk3 hK3 (fun z3 => And.intro (fun _ => ?_) (fun y => absurd y g10)) (fun z3 => And.intro (fun y => absurd rfl y) (fun _ => z_fl1 ?_))
      · rw [if_pos z3] at k1 k0
        refine z_adv hb hR3.1 hK3.2.1 hk3.2.1 fun I4 f4 hK4 => ?_
        change Tk (nx t n kc) I4 at hK4
        have hk4 := nx_ok (t := t) hk3
        have hR4 := hR3.f4 f4
        have fc4 : FC I I4 := fc2.tr (f3.tr f4).fc
        generalize nx t n kc = kd at hK4 hk4 k1 k0
        unfold head3 at k1 k0
        have e2 := tk2 hk4 hK4 (show 2 ≤ 5 by decide)
        show (_ → _) ∧ _
        refine ⟨fun z4 => ?_, fun z4 => z_fl1 ?_⟩
        · have z4' : kd.2.2.1 = 2 := by rw [← e2]; exact z4
          rw [if_pos z4'] at k1 k0
          have a8' := hK4.2.2.2 z4'
          have hk4' := hk4
          obtain ⟨r1, r2, r3, r4, r5⟩ := hk4'
          rw [a8']
          refine z_il (by omega) (by omega) (fun hp => And.intro (fun _ => ?_) (fun y => absurd y g10)) (fun hp => And.intro (fun y => absurd rfl y) (fun _ => z_fl1 ?_))
          · rw [if_pos hp] at k1
            rw [a8']
            have hR5 : CB t n (f0P N kd.2.2.2) (fun _ => false) 0 (gUI I4 6 2 0 1 (gi kd.2.2.2)) := hR4.put0 (by decide)
            refine z_adv hb hR5.1 ((if_neg (by omega)).trans hK4.2.1) r2 fun I5 f5 hK5 => ⟨Or.inr rfl, ?_⟩
            refine k1 (nx t n kd, f0P N kd.2.2.2, fun _ => false, 0) (f0P_V hN.1 hN.2 hp) (nx_ok hk4) (fun z => ?_) rfl I5 ((fc4.up2 (by omega)).tr f5.fc) (hR5.f4 f5) hK5
            have := (tokF_go (t := t) r2).2 z
            show 0 < (nx t n kd).2.1
            exact Nat.lt_of_le_of_lt (Nat.zero_le _) this
          · rw [if_neg hp] at k0
            exact k0 _ _ rfl _ (fc4.up4 (by omega)) gu_s ((gu_o (by decide)).trans hK4.1)
        · have z4' : ¬ kd.2.2.1 = 2 := by rw [← e2]; exact z4
          rw [if_neg z4'] at k0
          exact k0 _ _ rfl _ (fc4.up4 (by omega)) gu_s ((gu_o (by decide)).trans hK4.1)
      · rw [if_neg (by rw [z3]; decide)] at k0
        exact k0 _ _ rfl _ ((fc2.tr f3.fc).up4 (by omega)) gu_s ((gu_o (by decide)).trans hK3.1)
    · rw [if_neg (by rw [z2]; exact he), z2] at k0
      rw [en] at a4
      exact k0 _ _ rfl I2 (f1.fc.tr f2.fc) a3 a4
  · rw [if_neg (by rw [z]; decide)] at k0
    exact k0 _ _ rfl _ (FC.rf.up4 (by omega)) gu_s ((gu_o (by decide)).trans hK.1)
theorem CRw.rs (h : CRw f I) (h317 : f 317 = 0) : Rs0 f I 2 := by
  obtain ⟨r1, r2, r3, r4, r5, r6⟩ := h
  exact ⟨r1, r2, r3, r4, r5, r6, fun k hk => by rw [h317] at hk; exact absurd hk (Nat.not_lt_zero k)⟩
theorem FS.pz {I' : gI} (h : FS 2 I I') : FPz I I' := fun a b c d _ z2 => h a b c d z2
theorem FS.fc2 {I' : gI} (h : FS 2 I I') : FC I I' := fun a b c d _ z2 => h a b c d z2
theorem z_loop (hb : Tb t n) {Q0 : PF} (k1 : ∀ f, Q0 = .inr f → ∀ I' J', FC I I' → FJ 2 J J' → Rst (bgF f) I' J' 2 → I' 4 0 0 3 = gi 0 → Q (.inl (.int (gi 1))) I' J' B) (k0 : ∀ er pos, Q0 = .inl (er, pos) → ∀ I' J', FC I I' → FJ 2 J J' → I' 4 0 0 3 = gi er → I' 4 0 0 4 = gi pos → Q (.inl (.int (gi 0))) I' J' B) : ∀ (j i : Nat) (s : PS) (I1 : gI), Q0 = loopP t n j s → n - s.1.2.1 < j → FC I I1 → CB t n s.2.1 s.2.2.1 s.2.2.2 I1 → Tkk n s.1 → Tk s.1 I1 → Vp s → i ≤ 700 → (s.1.2.2.1 ≠ 0 → i < s.1.2.1) → gG E 22 68 [(0, .inr (4, 0, 0)), (2, .inl (.int (gi i)))] [] I1 J B c w Q X := by
  have h0 := hb.1
  intro j
  induction j with
  | zero => intro i s I1 _ h; omega
  | succ j ih =>
    intro i s I1 hQ h1 fr hR hk hK hV hi hst
    have e4 := tk2 hk hK (show 4 ≤ 5 by decide)
    unfold loopP at hQ
    -- the end
    have fin : ¬ s.1.2.2.1 = 4 → gC E 48 [.inr (6, 2, 0)] I1 J B (fun _ I J B => ((I 4 0 0 6 = gi 0 → (((gi 1) = gi 0 ∨ (gi 1) = gi 1) ∧ Q (.inl (.int (gi 1))) I J B)) ∧ (¬ I 4 0 0 6 = gi 0 → gC E 30 [.inr (4, 0, 0), .inl (.int (gi 1))] I J B (fun v I J B => gvi v fun r => ((r = gi 0 → (((gi 0) = gi 0 ∨ (gi 0) = gi 1) ∧ Q (.inl (.int (gi 0))) I J B)) ∧ (¬ r = gi 0 → (((gi 1) = gi 0 ∨ (gi 1) = gi 1) ∧ Q (.inl (.int (gi 1))) I J B)))) X))) X := fun z => by
      rw [if_neg z] at hQ
      refine z_begin hV.1.2 (hR.2.1.rs hV.2.2.2.2.2.2.1) fun I2 J2 f2 j2 hRs => ?_
      have e0 := tk2 hk hK (show 0 ≤ 5 by decide)
      have e6 : I2 4 0 0 6 = I1 4 0 0 6 := f2 4 0 0 6 (by omega)
      refine And.intro (fun y => ⟨Or.inr rfl, ?_⟩) (fun y => z_fl2 ?_)
      · rw [e6] at y
        have y2 : s.1.2.2.1 = 0 := by rw [← e0]; exact y
        rw [if_pos y2] at hQ
        exact k1 _ hQ I2 J2 (fr.tr f2.fc2) j2 hRs ((f2 4 0 0 3 (by omega)).trans hR.2.2.2.2.2)
      · rw [e6] at y
        have y2 : ¬ s.1.2.2.1 = 0 := fun q => y (by rw [show (gi 0 : Int32) = gi ((0 : Nat) : Int) from rfl, e0]; exact q)
        rw [if_neg y2] at hQ
        exact k0 _ _ hQ _ J2 ((fr.tr f2.fc2).tr (FC.rf.up4 (by omega))) j2 gu_s ((gu_o (by decide)).trans ((f2 4 0 0 4 (by omega)).trans hK.1))
    refine s_X3_parse_68 ⟨fun z => fin fun q => ?_, fun _ => ⟨fun z => fin fun q => ?_, fun z => ?_⟩⟩
    · rw [gi_le (by omega) (by omega) (by omega) (by omega)] at z
      have := hst (by omega)
      have := hk.2.1
      omega
    · exact z (by rw [show (gi 4 : Int32) = gi ((4 : Nat) : Int) from rfl, e4]; exact q)
    · have z' : s.1.2.2.1 = 4 := by rw [← e4]; exact z
      rw [if_pos z'] at hQ
      refine z_adv hb hR.1 hK.2.1 hk.2.1 fun I2 f2 hK2 => ?_
      change Tk (nx t n s.1) I2 at hK2
      have hR2 := hR.f4 f2
      have hk2 := nx_ok (t := t) hk
      have hV2 : Vp (nx t n s.1, s.2) := hV
      have hi2 := hst (by omega)
      show gC _ _ _ _ _ _ _ _
      refine z_line (s := (nx t n s.1, s.2)) hb hR2 hk2 hK2 hV.1.1 hV.1.2 hV.2.2.2.2.2.2.2 (fun s' hs' I3 f3 hR3 hK3 => And.intro (fun _ => ?_) (fun y => absurd y g10)) (fun er pos hs' I3 f3 b3 b4 => And.intro (fun y => absurd rfl y) (fun _ => ⟨Or.inl rfl, ?_⟩))
      · rw [hs'] at hQ
        obtain ⟨o1, o2, o3, o4⟩ := lineF_ok hV2 hk2 hs'
        have lt := (tokF_go (t := t) hk.2.1).2 (by change (nx t n s.1).2.2.1 = 1 at o4; show (nx t n s.1).2.2.1 ≠ 0; omega)
        change (nx t n s.1).2.1 ≤ s'.1.2.1 at o3
        change s.1.2.1 < (nx t n s.1).2.1 at lt
        have q2 := o2.2.1
        rw [show gi (i : Int) + gi 1 = gi ((i + 1 : Nat) : Int) from gi_add _ _]
        exact ih (i + 1) s' I3 hQ (by omega) ((fr.tr f2.fc).tr f3) hR3 o2 hK3 o1 (by omega) (fun _ => by omega)
      · rw [hs'] at hQ
        exact k0 _ _ hQ I3 J ((fr.tr f2.fc).tr f3) (fun _ _ _ _ => rfl) b3 b4
theorem loopP_ok : ∀ (j : Nat) (s : PS), Vp s → Tkk n s.1 → loopP t n j s = .inr f → Vf (bgF f) ∧ 0 ≤ f 0 ∧ f 0 ≤ 7 := by
  intro j
  induction j with
  | zero => intro s _ _ h; cases h
  | succ j ih =>
    intro s hV hk h
    unfold loopP at h
    by_cases z : s.1.2.2.1 = 4
    · rw [if_pos z] at h
      cases hL : lineF t n (nx t n s.1, s.2) with
      | inl er => rw [hL] at h; cases h
      | inr s' =>
        rw [hL] at h
        obtain ⟨o1, o2, o3, o4⟩ := lineF_ok (s := (nx t n s.1, s.2)) hV (nx_ok hk) hL
        exact ih s' o1 o2 h
    · rw [if_neg z] at h
      by_cases z2 : s.1.2.2.1 = 0
      · rw [if_pos z2] at h
        have h2 := Sum.inr.inj h
        subst h2
        obtain ⟨v1, v2, v3, v4, v5, v6, v7, v8⟩ := hV
        exact ⟨Vf.mk0 v1 v2 v3 v4 v5 (fun i hi => by rw [v6 i hi]; decide) (by rw [v7]; decide), by omega, v1.2⟩
      · rw [if_neg z2] at h
        cases h
theorem head3_ok {N : Int} (hN : 1 ≤ N ∧ N ≤ 7) (hk : Tkk n k) (h : head3 t n N k = .inr f) : Vf (bgF f) ∧ 0 ≤ f 0 ∧ f 0 ≤ 7 := by
  unfold head3 at h
  by_cases z4 : k.2.2.1 = 2
  · rw [if_pos z4] at h
    by_cases z5 : k.2.2.2 ∈ primesL
    · rw [if_pos z5] at h
      have o := nx_ok (t := t) hk
      generalize nx t n k = k' at o h
      generalize k.2.2.2 = pp at z5 h
      exact loopP_ok 701 (k', f0P N pp, fun _ => false, 0) (f0P_V hN.1 hN.2 z5) o h
    · rw [if_neg z5] at h; cases h
  · rw [if_neg z4] at h; cases h
theorem parseF_ok (h : parseF t n = .inr f) : Vf (bgF f) ∧ 0 ≤ f 0 ∧ f 0 ≤ 7 := by
  have hk := tokF_ok (t := t) (Nat.zero_le n)
  unfold parseF at h
  generalize tokF t n 0 = ka at hk h
  by_cases z : isWF t ka 0 = true
  · rw [if_pos z] at h
    have hk1 := nx_ok (t := t) hk
    generalize nx t n ka = kb at hk1 h
    unfold head1 at h
    by_cases z2 : ner t n kb false 1 7 = 0
    · rw [if_pos z2] at h
      have hN := (ner0 z2).2
      rw [show nv t n kb false = kb.2.2.2 from if_neg (fun h => absurd h.1 (by decide))] at hN
      have hk2 := nx_ok (t := t) hk1
      generalize nx t n kb = kc at hk2 h
      generalize kb.2.2.2 = N at hN h
      unfold head2 at h
      by_cases z3 : isWF t kc 1 = true
      · rw [if_pos z3] at h
        exact head3_ok hN (nx_ok hk2) h
      · rw [if_neg z3] at h; cases h
    · rw [if_neg z2] at h; cases h
  · rw [if_neg z] at h; cases h
theorem z_parse (hnb : nb ≤ 700) (hm : m ≤ nb) (e1 : I 4 0 0 1 = gi nb) (ht : ∀ k, k < nb → (0 ≤ t k ∧ t k < 256) ∧ I 5 0 0 k &&& gi 255 = gi (t k)) (k1 : ∀ f, parseF t m = .inr f → ∀ I' J', FPz I I' → FJ 2 J J' → Rst (bgF f) I' J' 2 → I' 4 0 0 3 = gi 0 → I' 4 0 0 1 = gi 0 → Q (.inl (.int (gi 1))) I' J' B) (k0 : ∀ er pos, parseF t m = .inl (er, pos) → ∀ I' J', FPz I I' → FJ 2 J J' → I' 4 0 0 3 = gi er → I' 4 0 0 4 = gi pos → I' 4 0 0 1 = gi 0 → Q (.inl (.int (gi 0))) I' J' B) : gC E 22 [.inr (4, 0, 0), .inl (.int (gi m))] I J B Q X := by
  have hb : Tb t m := ⟨by omega, fun k hk => (ht k (by omega)).1⟩
  refine e_X3_parse ?_
  rw [e1]
  refine z_min (by omega) (by omega) (by omega) (by omega) ?_
  show gC _ _ _ _ _ _ _ _
  rw [show min (m : Int) (nb : Int) = (m : Int) by omega]
  refine z_max (by omega) (by omega) (by omega) (by omega) ?_
  show gC _ _ _ _ _ _ _ _
  rw [show max (0 : Int) (m : Int) = (m : Int) by omega]
  have q5 : (gUI (gUI (gUI (gUI (gUI (gUI (gUI I 4 0 0 5 (gi m)) 4 0 0 1 (gi 0)) 4 0 0 3 (gi 0)) 4 0 0 7 (gi 0)) 4 0 0 11 (gi 0)) 4 0 0 12 (gi 0)) 4 0 0 13 (gi 0)) 4 0 0 5 = gi m := by rw [gu_o (by decide), gu_o (by decide), gu_o (by decide), gu_o (by decide), gu_o (by decide), gu_o (by decide), gu_s]
  have q1 : (gUI (gUI (gUI (gUI (gUI (gUI (gUI I 4 0 0 5 (gi m)) 4 0 0 1 (gi 0)) 4 0 0 3 (gi 0)) 4 0 0 7 (gi 0)) 4 0 0 11 (gi 0)) 4 0 0 12 (gi 0)) 4 0 0 13 (gi 0)) 4 0 0 1 = gi 0 := by rw [gu_o (by decide), gu_o (by decide), gu_o (by decide), gu_o (by decide), gu_o (by decide), gu_s]
  have q3 : (gUI (gUI (gUI (gUI (gUI (gUI (gUI I 4 0 0 5 (gi m)) 4 0 0 1 (gi 0)) 4 0 0 3 (gi 0)) 4 0 0 7 (gi 0)) 4 0 0 11 (gi 0)) 4 0 0 12 (gi 0)) 4 0 0 13 (gi 0)) 4 0 0 3 = gi 0 := by rw [gu_o (by decide), gu_o (by decide), gu_o (by decide), gu_o (by decide), gu_s]
  have q7 : (gUI (gUI (gUI (gUI (gUI (gUI (gUI I 4 0 0 5 (gi m)) 4 0 0 1 (gi 0)) 4 0 0 3 (gi 0)) 4 0 0 7 (gi 0)) 4 0 0 11 (gi 0)) 4 0 0 12 (gi 0)) 4 0 0 13 (gi 0)) 4 0 0 7 = gi 0 := by rw [gu_o (by decide), gu_o (by decide), gu_o (by decide), gu_s]
  have q11 : (gUI (gUI (gUI (gUI (gUI (gUI (gUI I 4 0 0 5 (gi m)) 4 0 0 1 (gi 0)) 4 0 0 3 (gi 0)) 4 0 0 7 (gi 0)) 4 0 0 11 (gi 0)) 4 0 0 12 (gi 0)) 4 0 0 13 (gi 0)) 4 0 0 11 = gi 0 := by rw [gu_o (by decide), gu_o (by decide), gu_s]
  have q12 : (gUI (gUI (gUI (gUI (gUI (gUI (gUI I 4 0 0 5 (gi m)) 4 0 0 1 (gi 0)) 4 0 0 3 (gi 0)) 4 0 0 7 (gi 0)) 4 0 0 11 (gi 0)) 4 0 0 12 (gi 0)) 4 0 0 13 (gi 0)) 4 0 0 12 = gi 0 := by rw [gu_o (by decide), gu_s]
  have q13 : (gUI (gUI (gUI (gUI (gUI (gUI (gUI I 4 0 0 5 (gi m)) 4 0 0 1 (gi 0)) 4 0 0 3 (gi 0)) 4 0 0 7 (gi 0)) 4 0 0 11 (gi 0)) 4 0 0 12 (gi 0)) 4 0 0 13 (gi 0)) 4 0 0 13 = gi 0 := gu_s
  have fp : FPz I (gUI (gUI (gUI (gUI (gUI (gUI (gUI I 4 0 0 5 (gi m)) 4 0 0 1 (gi 0)) 4 0 0 3 (gi 0)) 4 0 0 7 (gi 0)) 4 0 0 11 (gi 0)) 4 0 0 12 (gi 0)) 4 0 0 13 (gi 0)) := fun a b c d z1 z2 => by
    rw [gUI_at, if_neg (by omega), gUI_at, if_neg (by omega), gUI_at, if_neg (by omega), gUI_at, if_neg (by omega), gUI_at, if_neg (by omega), gUI_at, if_neg (by omega), gUI_at, if_neg (by omega)]
  generalize gUI (gUI (gUI (gUI (gUI (gUI (gUI I 4 0 0 5 (gi m)) 4 0 0 1 (gi 0)) 4 0 0 3 (gi 0)) 4 0 0 7 (gi 0)) 4 0 0 11 (gi 0)) 4 0 0 12 (gi 0)) 4 0 0 13 (gi 0) = Ia at q5 q1 q3 q7 q11 q12 q13 fp ⊢
  refine z_clear fun I2 J2 f2 j2 hRs => ?_
  obtain ⟨s1, s2, s3, s4, s5, s6, s7⟩ := hRs
  have fp2 : FPz I I2 := fp.tr f2.pz
  have hR2 : CB t m (fun _ => 0) (fun _ => false) 0 I2 := by
    refine ⟨⟨(f2 4 0 0 5 (by omega)).trans q5, fun k hk => (congrArg (· &&& gi 255) (fp2 5 0 0 k (by omega) (by omega))).trans (ht k (by omega)).2⟩, ⟨s1, s2, s3, s4, s5, s6⟩, ?_, ?_, (f2 4 0 0 11 (by omega)).trans q11, (f2 4 0 0 3 (by omega)).trans q3⟩
    · rw [f2 4 0 0 12 (by omega), q12]
      exact fun i hi => Bt_0
    · rw [f2 4 0 0 13 (by omega), q13]
      exact fun i hi => Bt_0
  have c1 : I2 4 0 0 1 = gi 0 := (f2 4 0 0 1 (by omega)).trans q1
  show gC _ _ _ _ _ _ _ _
  refine z_adv (e := 0) hb hR2.1 ((f2 4 0 0 7 (by omega)).trans q7) (Nat.zero_le _) fun I3 f3 hK3 => ?_
  show gC _ _ _ _ _ _ _ _
  refine z_head hb (hR2.f4 f3) hK3 (fun s hV hk hst hP I4 f4 hR4 hK4 => And.intro (fun _ => ?_) (fun y => absurd y g10)) (fun er pos hP I4 f4 b3 b4 => And.intro (fun y => absurd rfl y) (fun _ => ⟨Or.inl rfl, k0 er pos hP I4 J2 ((fp2.tr f3.fc.pz).tr f4.pz) j2 b3 b4 ?_⟩))
  · refine z_loop (I := I4) (J := J2) hb (Q0 := parseF t m) (fun f hf I' J' fr jr hRs h3 => ?_) (fun er pos hf I' J' fr jr b3 b4 => ?_) 701 0 s I4 hP (by have := hb.1; omega) FC.rf hR4 hk hK4 hV (by decide) hst
    · exact k1 f hf I' J' (((fp2.tr f3.fc.pz).tr f4.pz).tr fr.pz) (fun a b d z => (jr a b d z).trans (j2 a b d z)) hRs h3 ((fr 4 0 0 1 (by omega) (by omega)).trans ((f4 4 0 0 1 (by omega) (by omega)).trans ((f3 4 0 0 1 (by omega)).trans c1)))
    · exact k0 er pos hf I' J' (((fp2.tr f3.fc.pz).tr f4.pz).tr fr.pz) (fun a b d z => (jr a b d z).trans (j2 a b d z)) b3 b4 ((fr 4 0 0 1 (by omega) (by omega)).trans ((f4 4 0 0 1 (by omega) (by omega)).trans ((f3 4 0 0 1 (by omega)).trans c1)))
  · exact (f4 4 0 0 1 (by omega) (by omega)).trans ((f3 4 0 0 1 (by omega)).trans c1)
end YE
