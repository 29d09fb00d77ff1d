/-! ===== the class's lines, on ===== -/
def K1 (t : Nat → Int) (n : Nat) (Q : gQt) (J : gJ) (B : gB) (I : gI) (R : PR) : Prop := ∀ s', R = .inr s' → ∀ I', FC I I' → CB t n s'.2.1 s'.2.2.1 s'.2.2.2 I' → Tk s'.1 I' → Q (.inl (.int (gi 1))) I' J B
def K0 (Q : gQt) (J : gJ) (B : gB) (I : gI) (R : PR) : Prop := ∀ er pos, R = .inl (er, pos) → ∀ I', FC I I' → I' 4 0 0 3 = gi er → I' 4 0 0 4 = gi pos → Q (.inl (.int (gi 0))) I' J B
section YD
variable {E : gEn} {Q : gQt} {X : gXt} {I : gI} {J : gJ} {B : gB} {c w n e p m bb : Nat} {t : Nat → Int} {lo hi v : Int} {k : Tok} {f : Nat → Int} {tD : Nat → Bool} {s : PS} {x y : Int32}
theorem K1.fc {I' : gI} {R : PR} (h : K1 t n Q J B I R) (g : FC I I') : K1 t n Q J B I' R := fun s' h1 I2 g2 => h s' h1 I2 (g.tr g2)
theorem K0.fc {I' : gI} {R : PR} (h : K0 Q J B I R) (g : FC I I') : K0 Q J B I' R := fun er pos h1 I2 g2 => h er pos h1 I2 (g.tr g2)
theorem z_rv (hb : Tb t n) (p0 C : Nat) (hlo : lo + 6 = (p0 : Int)) (hC : p0 + C ≤ 13) (hk : Tkk n k) (hK : Tk k I) (hR : CB t n f tD bb I) (a9 : I 4 0 0 9 = gi lo) (a10 : I 4 0 0 10 = gi (lo + (C : Int) - 1)) (k1 : K1 t n Q J B I (nm t n k true (-50) 50 fun k2 v => .inr (nx t n k2, fillF f p0 C v, tD, bb))) (k0 : K0 Q J B I (nm t n k true (-50) 50 fun k2 v => .inr (nx t n k2, fillF f p0 C v, tD, bb))) : gC E 26 [.inr (4, 0, 0)] I J B (fun v I J B => gvi v fun r => ((r = gi 0 → (((gi 0) = gi 0 ∨ (gi 0) = gi 1) ∧ Q (.inl (.int (gi 0))) I J B)) ∧ (¬ r = gi 0 → (((gi 1) = gi 0 ∨ (gi 1) = gi 1) ∧ Q (.inl (.int (gi 1))) I J B)))) X := by
  unfold nm at k1 k0
  refine z_rangeV hb p0 C hlo hC hk hK hR a9 a10 (fun z I' f' hR' hK' => And.intro (fun y => absurd y g10) (fun _ => ⟨Or.inr rfl, ?_⟩)) (fun er he z I' f' b3 b4 => And.intro (fun _ => ⟨Or.inl rfl, ?_⟩) (fun y => absurd rfl y))
  · rw [if_pos z] at k1
    exact k1 _ rfl I' f' hR' hK'
  · rw [if_neg (by rw [z]; exact he), z] at k0
    exact k0 _ _ rfl I' f' b3 b4
theorem negN {N : Int} : -(gi N - gi 1) = gi (1 - N) := by
  rw [gi_sub, gi_neg]
  exact congrArg gi (by omega)
theorem CB.rng {q1 q2 : Int32} (h : CB t n f tD bb I) : CB t n f tD bb (gUI (gUI I 4 0 0 9 q1) 4 0 0 10 q2) := (h.up (Or.inl rfl)).up (Or.inr rfl)
theorem z_diag (hb : Tb t n) (hR : CB t n s.2.1 s.2.2.1 s.2.2.2 I) (hk : Tkk n s.1) (hK : Tk s.1 I) (hN : 1 ≤ s.2.1 0) (hN7 : s.2.1 0 ≤ 7) (k1 : K1 t n Q J B I (diagL t n s)) (k0 : K0 Q J B I (diagL t n s)) : gC E 25 [.inr (4, 0, 0), .inl (.int (gi 0))] I J B (fun v I J B => gvi v fun r => ((r = gi 0 → (((gi 0) = gi 0 ∨ (gi 0) = gi 1) ∧ Q (.inl (.int (gi 0))) I J B)) ∧ (¬ r = gi 0 → gC E 26 [.inr (4, 0, 0)] I J B (fun v I J B => gvi v fun r => ((r = gi 0 → (((gi 0) = gi 0 ∨ (gi 0) = gi 1) ∧ Q (.inl (.int (gi 0))) I J B)) ∧ (¬ r = gi 0 → (((gi 1) = gi 0 ∨ (gi 1) = gi 1) ∧ Q (.inl (.int (gi 1))) I J B)))) X))) X := by
  obtain ⟨ks, f, tD, bb⟩ := s
  change CB t n f tD bb I at hR
  change 1 ≤ f 0 at hN
  change f 0 ≤ 7 at hN7
  change Tkk n ks at hk
  refine e_X3_readRange (z_adv hb hR.1 hK.2.1 hk.2.1 fun I1 f1 hK1 => ?_)
  change Tk (nx t n ks) I1 at hK1
  have hR1 := hR.f4 f1
  show gC _ _ _ _ _ _ _ _
  rw [hR.2.1.1, negN, gi_sub]
  unfold diagL nm at k1 k0
  refine z_rn true hb hR1.1 (nx_ok hk) hK1 (by omega) (by omega) (by omega) (by omega) (fun z I2 f2 a4 a7 a8 => And.intro (fun _ => ⟨fun _ => ?_, fun y => absurd rfl y⟩) (fun y => absurd y g10)) (fun er he z I2 f2 a3 a4 => And.intro (fun y => absurd rfl y) (fun _ => ⟨Or.inl rfl, And.intro (fun _ => ⟨Or.inl rfl, ?_⟩) (fun y => absurd rfl y)⟩))
  · have hq := (ner0 z).2
    have hnk := nk_ok (t := t) (sg := true) (nx_ok (t := t) hk)
    rw [if_pos (show ner t n (nx t n (ks, f, tD, bb).1) true (1 - (ks, f, tD, bb).2.1 0) ((ks, f, tD, bb).2.1 0 - 1) = 0 from z)] at k1 k0
    change K1 t n Q J B I (rngV t n f tD bb (nk t n (nx t n ks) true) (nv t n (nx t n ks) true + 6).toNat 1) at k1
    change K0 Q J B I (rngV t n f tD bb (nk t n (nx t n ks) true) (nv t n (nx t n ks) true + 6).toNat 1) at k0
    generalize nv t n (nx t n ks) true = q at hq k1 k0 a8
    generalize nk t n (nx t n ks) true = kq at a4 a7 hnk k1 k0
    have hR2 := (hR1.f4 f2).rng (q1 := gi q) (q2 := gi q)
    have fc2 : FC I (gUI (gUI I2 4 0 0 9 (gi q)) 4 0 0 10 (gi q)) := ((f1.tr f2).fc.up4 (by omega)).up4 (by omega)
    rw [a8]
    have g := z_l74 (E := E) (Q := (fun v I J B => gvi v fun r => ((r = gi 0 → (((gi 0) = gi 0 ∨ (gi 0) = gi 1) ∧ Q (.inl (.int (gi 0))) I J B)) ∧ (¬ r = gi 0 → gC E 26 [.inr (4, 0, 0)] I J B (fun v I J B => gvi v fun r => ((r = gi 0 → (((gi 0) = gi 0 ∨ (gi 0) = gi 1) ∧ Q (.inl (.int (gi 0))) I J B)) ∧ (¬ r = gi 0 → (((gi 1) = gi 0 ∨ (gi 1) = gi 1) ∧ Q (.inl (.int (gi 1))) I J B)))) X)))) (X := X) (J := J) (B := B) (c := 0) (w := 0) (lo := q) hb (q + 6).toNat 1 (by decide) (by omega) (by omega) kq hnk hR2 ((gu_o (by decide)).trans ((gu_o (by decide)).trans a4)) ((gu_o (by decide)).trans ((gu_o (by decide)).trans a7)) ((gu_o (by decide)).trans gu_s) (gu_s.trans (congrArg gi (by omega))) (fun z I' f' hR' hK' a9 a10 => ?_) (fun z I' f' b3 b4 => ?_) 1 0 (gi 0) rfl (Nat.zero_le _) RMk.z
    · rw [show q + ((0 : Nat) : Int) = q by omega] at g
      exact g
    · unfold rngV at k1 k0
      rw [z, if_neg (by decide)] at k1 k0
      exact And.intro (fun y => absurd y g10) (fun _ => z_rv hb (q + 6).toNat 1 (by omega) (by omega) (nx_ok hnk) hK' hR' a9 a10 (k1.fc (fc2.tr f')) (k0.fc (fc2.tr f')))
    · unfold rngV at k0
      rw [if_pos z] at k0
      exact And.intro (fun _ => ⟨Or.inl rfl, k0 _ _ rfl I' (fc2.tr f') b3 b4⟩) (fun y => absurd rfl y)
  · rw [if_neg (by show ¬ ner t n (nx t n ks) true (1 - f 0) (f 0 - 1) = 0; rw [z]; exact he)] at k0
    change K0 Q J B I (.inl (ner t n (nx t n ks) true (1 - f 0) (f 0 - 1), (nk t n (nx t n ks) true).1)) at k0
    rw [z] at k0
    exact k0 _ _ rfl I2 (f1.fc.tr f2.fc) a3 a4
theorem CB.bnd (h : CB t n f tD bb I) : CB t n f tD (bb + 1) (gUI I 4 0 0 11 (gi ((bb + 1 : Nat) : Int))) := by
  obtain ⟨h1, h2, h3, h4, h5, h6⟩ := h
  refine ⟨⟨(if_neg (by omega)).trans h1.1, fun q hq => (congrArg (· &&& gi 255) (if_neg (by omega))).trans (h1.2 q hq)⟩, h2.to fun a d z1 z2 => if_neg (by omega), ?_, ?_, gu_s, (if_neg (by omega)).trans h6⟩
  · rw [gUI_at, if_neg (by omega)]; exact h3
  · rw [gUI_at, if_neg (by omega)]; exact h4
theorem Tk.up {d : Nat} {y : Int32} (h : Tk k I) (hd : 9 ≤ d) : Tk k (gUI I 4 0 0 d y) := by
  obtain ⟨g1, g2, g3, g4⟩ := h
  exact ⟨(if_neg (by omega)).trans g1, (if_neg (by omega)).trans g2, (if_neg (by omega)).trans g3, fun z => (if_neg (by omega)).trans (g4 z)⟩
theorem z_band (hb : Tb t n) {ks : Tok} (hR : CB t n f tD bb I) (hk : Tkk n ks) (hK : Tk ks I) (hN : 1 ≤ f 0) (hN7 : f 0 ≤ 7) (k1 : K1 t n Q J B I (nm t n (nx t n ks) true (1 - f 0) (f 0 - 1) fun k1 lo => nm t n (nx t n k1) true lo (f 0 - 1) fun k2 hi => rngV t n f tD bb k2 (lo + 6).toNat (hi + 1 - lo).toNat)) (k0 : K0 Q J B I (nm t n (nx t n ks) true (1 - f 0) (f 0 - 1) fun k1 lo => nm t n (nx t n k1) true lo (f 0 - 1) fun k2 hi => rngV t n f tD bb k2 (lo + 6).toNat (hi + 1 - lo).toNat)) : gC E 25 [.inr (4, 0, 0), .inl (.int (gi 1))] I J B (fun v I J B => gvi v fun r => ((r = gi 0 → (((gi 0) = gi 0 ∨ (gi 0) = gi 1) ∧ Q (.inl (.int (gi 0))) I J B)) ∧ (¬ r = gi 0 → gC E 26 [.inr (4, 0, 0)] I J B (fun v I J B => gvi v fun r => ((r = gi 0 → (((gi 0) = gi 0 ∨ (gi 0) = gi 1) ∧ Q (.inl (.int (gi 0))) I J B)) ∧ (¬ r = gi 0 → (((gi 1) = gi 0 ∨ (gi 1) = gi 1) ∧ Q (.inl (.int (gi 1))) I J B)))) X))) X := by
  refine e_X3_readRange (z_adv hb hR.1 hK.2.1 hk.2.1 fun I1 f1 hK1 => ?_)
  change Tk (nx t n ks) I1 at hK1
  have hR1 := hR.f4 f1
  show gC _ _ _ _ _ _ _ _
  rw [hR.2.1.1, negN, gi_sub]
  unfold nm at k1 k0
  refine z_rn true hb hR1.1 (nx_ok hk) hK1 (by omega) (by omega) (by omega) (by omega) (fun z I2 f2 a4 a7 a8 => And.intro (fun _ => ⟨fun y => absurd y g10, fun _ => ?_⟩) (fun y => absurd y g10)) (fun er he z I2 f2 a3 a4 => And.intro (fun y => absurd rfl y) (fun _ => ⟨Or.inl rfl, And.intro (fun _ => ⟨Or.inl rfl, ?_⟩) (fun y => absurd rfl y)⟩))
  · have hq := (ner0 z).2
    have hnk := nk_ok (t := t) (sg := true) (nx_ok (t := t) hk)
    rw [if_pos z] at k1 k0
    change K1 t n Q J B I (nm t n (nx t n (nk t n (nx t n ks) true)) true (nv t n (nx t n ks) true) (f 0 - 1) fun k2 hi => rngV t n f tD bb k2 (nv t n (nx t n ks) true + 6).toNat (hi + 1 - nv t n (nx t n ks) true).toNat) at k1
    change K0 Q J B I (nm t n (nx t n (nk t n (nx t n ks) true)) true (nv t n (nx t n ks) true) (f 0 - 1) fun k2 hi => rngV t n f tD bb k2 (nv t n (nx t n ks) true + 6).toNat (hi + 1 - nv t n (nx t n ks) true).toNat) at k0
    generalize nv t n (nx t n ks) true = lo at hq k1 k0 a8
    generalize nk t n (nx t n ks) true = kq at a4 a7 hnk k1 k0
    rw [a8]
    have hR2 : CB t n f tD bb (gUI I2 4 0 0 9 (gi lo)) := (hR1.f4 f2).up (Or.inl rfl)
    refine z_adv hb hR2.1 ((gu_o (by decide)).trans a7) hnk.2.1 fun I3 f3 hK3 => ?_
    change Tk (nx t n kq) I3 at hK3
    have a9 : I3 4 0 0 9 = gi lo := (f3 4 0 0 9 (by omega)).trans gu_s
    show gC _ _ _ _ _ _ _ _
    rw [a9]
    unfold nm at k1 k0
    refine z_rn true hb (hR2.f4 f3).1 (nx_ok hnk) hK3 (by omega) (by omega) (by omega) (by omega) (fun z2 I4 f4 b4 b7 b8 => And.intro (fun _ => ?_) (fun y => absurd y g10)) (fun er he z2 I4 f4 b3 b4 => And.intro (fun y => absurd rfl y) (fun _ => ⟨Or.inl rfl, And.intro (fun _ => ⟨Or.inl rfl, ?_⟩) (fun y => absurd rfl y)⟩))
    · have hq2 := (ner0 z2).2
      rw [if_pos z2] at k1 k0
      change K1 t n Q J B I (rngV t n f tD bb (nk t n (nx t n kq) true) (lo + 6).toNat (nv t n (nx t n kq) true + 1 - lo).toNat) at k1
      change K0 Q J B I (rngV t n f tD bb (nk t n (nx t n kq) true) (lo + 6).toNat (nv t n (nx t n kq) true + 1 - lo).toNat) at k0
      have hnk2 := nk_ok (t := t) (sg := true) (nx_ok (t := t) hnk)
      generalize nv t n (nx t n kq) true = hi at hq2 k1 k0 b8
      generalize nk t n (nx t n kq) true = kr at b4 b7 hnk2 k1 k0
      have hR4 : CB t n f tD bb (gUI I4 4 0 0 10 (gi hi)) := ((hR2.f4 f3).f4 f4).up (Or.inr rfl)
      have fc4 : FC I (gUI I4 4 0 0 10 (gi hi)) := ((((f1.tr f2).fc.up4 (by omega)).tr f3.fc).tr f4.fc).up4 (by omega)
      have a9' : I4 4 0 0 9 = gi lo := (f4 4 0 0 9 (by omega)).trans a9
      rw [b8, a9']
      have g := z_l74 (E := E) (Q := (fun v I J B => gvi v fun r => ((r = gi 0 → (((gi 0) = gi 0 ∨ (gi 0) = gi 1) ∧ Q (.inl (.int (gi 0))) I J B)) ∧ (¬ r = gi 0 → gC E 26 [.inr (4, 0, 0)] I J B (fun v I J B => gvi v fun r => ((r = gi 0 → (((gi 0) = gi 0 ∨ (gi 0) = gi 1) ∧ Q (.inl (.int (gi 0))) I J B)) ∧ (¬ r = gi 0 → (((gi 1) = gi 0 ∨ (gi 1) = gi 1) ∧ Q (.inl (.int (gi 1))) I J B)))) X)))) (X := X) (J := J) (B := B) (c := 0) (w := 0) (lo := lo) hb (lo + 6).toNat (hi + 1 - lo).toNat (by omega) (by omega) (by omega) kr hnk2 hR4 ((gu_o (by decide)).trans b4) ((gu_o (by decide)).trans b7) ((gu_o (by decide)).trans a9') (gu_s.trans (congrArg gi (by omega))) (fun z I' f' hR' hK' c9 c10 => ?_) (fun z I' f' c3 c4 => ?_) (hi + 1 - lo).toNat 0 (gi 0) rfl (Nat.zero_le _) RMk.z
      · rw [show lo + ((0 : Nat) : Int) = lo by omega] at g
        exact g
      · unfold rngV at k1 k0
        rw [z, if_neg (by decide)] at k1 k0
        exact And.intro (fun y => absurd y g10) (fun _ => z_rv hb (lo + 6).toNat (hi + 1 - lo).toNat (by omega) (by omega) (nx_ok hnk2) hK' hR' c9 c10 (k1.fc (fc4.tr f')) (k0.fc (fc4.tr f')))
      · unfold rngV at k0
        rw [if_pos z] at k0
        exact And.intro (fun _ => ⟨Or.inl rfl, k0 _ _ rfl I' (fc4.tr f') c3 c4⟩) (fun y => absurd rfl y)
    · rw [if_neg (by rw [z2]; exact he), z2] at k0
      exact k0 _ _ rfl I4 ((((f1.tr f2).fc.up4 (by omega)).tr f3.fc).tr f4.fc) b3 b4
  · rw [if_neg (by rw [z]; exact he), z] at k0
    exact k0 _ _ rfl I2 (f1.fc.tr f2.fc) a3 a4
/-! parts -/
theorem BR.any1 {mk : Int32} (h : BR x tD) (hm : RMk mk p 1) (hp : p < 14) : (x &&& mk = gi 0) = (tD (13 + p) = false) := by
  refine propext ⟨fun z => ?_, fun z => and0.mpr fun i hi => ?_⟩
  · have q := and0.mp z p (by omega)
    rw [h p hp, hm p (by omega), decide_eq_true (Nat.le_refl p), decide_eq_true (Nat.lt_succ_self p)] at q
    simpa using q
  · rw [hm i hi]
    by_cases h1 : i = p
    · rw [h1, h p hp, z, Bool.false_and]
    · by_cases h2 : p ≤ i
      · rw [decide_eq_false (show ¬ i < p + 1 by omega), Bool.and_false, Bool.and_false]
      · rw [decide_eq_false h2, Bool.false_and, Bool.and_false]
theorem BR.or1 {mk : Int32} (h : BR x tD) (hm : RMk mk p 1) : BR (x ||| mk) (fillB tD (13 + p) 1) := fun i hi => by
  rw [Bt_or, h i hi, hm i (by omega)]
  by_cases h1 : i = p
  · rw [fillB_1 (by omega), decide_eq_true (show p ≤ i by omega), decide_eq_true (show i < p + 1 by omega)]
    simp
  · rw [fillB_0 (by omega)]
    by_cases h2 : p ≤ i
    · rw [decide_eq_false (show ¬ i < p + 1 by omega), Bool.and_false, Bool.or_false]
    · rw [decide_eq_false h2, Bool.false_and, Bool.or_false]
theorem CB.told2 {mk : Int32} (h : CB t n f tD bb I) (hm : RMk mk p 1) : CB t n f (fillB tD (13 + p) 1) bb (gUI I 4 0 0 13 (I 4 0 0 13 ||| mk)) := by
  obtain ⟨g1, g2, g3, g4, g5, g6⟩ := h
  refine ⟨⟨(if_neg (by omega)).trans g1.1, fun q hq => (congrArg (· &&& gi 255) (if_neg (by omega))).trans (g1.2 q hq)⟩, g2.to fun a d z1 z2 => if_neg (by omega), ?_, ?_, (if_neg (by omega)).trans g5, (if_neg (by omega)).trans g6⟩
  · rw [gUI_at, if_neg (by omega)]
    exact fun i hi => (g3 i hi).trans (fillB_0 (by omega)).symm
  · rw [gu_s]; exact g4.or1 hm
theorem CB.put2 {i a0 : Nat} (h : CB t n f tD bb I) (ha : a0 = 8 ∨ a0 = 9) (hi : i < 7) : CB t n (upF f (7 * a0 - 41 + i) v) tD bb (gUI I a0 2 0 i (gi v)) := by
  obtain ⟨g1, g2, g3, g4, g5, g6⟩ := h
  obtain ⟨r1, r2, r3, r4, r5, r6⟩ := g2
  have hn : ∀ m, m ≠ 7 * a0 - 41 + i → upF f (7 * a0 - 41 + i) v m = f m := fun m hm => if_neg hm
  have he : ∀ m, m = 7 * a0 - 41 + i → upF f (7 * a0 - 41 + i) v m = v := fun m hm => if_pos hm
  refine ⟨⟨(if_neg (by omega)).trans g1.1, fun q hq => (congrArg (· &&& gi 255) (if_neg (by omega))).trans (g1.2 q hq)⟩, ⟨?_, ?_, fun j hj => ?_, fun j hj => ?_, fun j hj => ?_, ?_⟩, ?_, ?_, (if_neg (by omega)).trans g5, (if_neg (by omega)).trans g6⟩
  · rw [hn _ (by omega)]; exact (if_neg (by omega)).trans r1
  · rw [hn _ (by omega)]; exact (if_neg (by omega)).trans r2
  · rw [hn _ (by omega)]; exact (if_neg (by omega)).trans (r3 j hj)
  · rw [gUI_at]
    by_cases z : a0 = 8 ∧ j = i
    · rw [if_pos ⟨z.1.symm, rfl, rfl, z.2⟩, he _ (by omega)]
    · rw [if_neg (by omega), hn _ (by omega)]; exact r4 j hj
  · rw [gUI_at]
    by_cases z : a0 = 9 ∧ j = i
    · rw [if_pos ⟨z.1.symm, rfl, rfl, z.2⟩, he _ (by omega)]
    · rw [if_neg (by omega), hn _ (by omega)]; exact r5 j hj
  · rw [hn _ (by omega)]; exact (if_neg (by omega)).trans r6
  · rw [gUI_at, if_neg (by omega)]; exact g3
  · rw [gUI_at, if_neg (by omega)]; exact g4
theorem z_part8 (hb : Tb t n) (hR : CB t n s.2.1 s.2.2.1 s.2.2.2 I) (hk : Tkk n s.1) (hK : Tk s.1 I) (hN : 1 ≤ s.2.1 0) (hN7 : s.2.1 0 ≤ 7) (k1 : K1 t n Q J B I (partL t n 15 13 s)) (k0 : K0 Q J B I (partL t n 15 13 s)) : gC E 27 [.inr (4, 0, 0), .inr (8, 2, 0), .inl (.int (gi 1))] I J B (fun v I J B => gvi v fun r => ((r = gi 0 ∨ r = gi 1) ∧ Q (.inl (.int r)) I J B)) X := by
  obtain ⟨ks, f, tD, bb⟩ := s
  change CB t n f tD bb I at hR
  change 1 ≤ f 0 at hN
  change f 0 ≤ 7 at hN7
  change Tkk n ks at hk
  refine e_X3_readPart_8 (z_adv hb hR.1 hK.2.1 hk.2.1 fun I1 f1 hK1 => ?_)
  change Tk (nx t n ks) I1 at hK1
  have hR1 := hR.f4 f1
  show gC _ _ _ _ _ _ _ _
  rw [hR1.2.1.1, gi_sub]
  unfold partL nm at k1 k0
  refine z_rn false hb hR1.1 (nx_ok hk) hK1 (by omega) (by omega) (by omega) (by omega) (fun z I2 f2 a4 a7 a8 => And.intro (fun _ => ?_) (fun y => absurd y g10)) (fun er he z I2 f2 a3 a4 => And.intro (fun y => absurd rfl y) (fun _ => ⟨Or.inl rfl, And.intro (Or.inl rfl) ?_⟩))
  · have hq := (ner0 z).2
    have hnk := nk_ok (t := t) (sg := false) (nx_ok (t := t) hk)
    rw [if_pos (show ner t n (nx t n (ks, f, tD, bb).1) false 0 ((ks, f, tD, bb).2.1 0 - 1) = 0 from z)] at k1 k0
    change K1 t n Q J B I (if tD (13 + (nv t n (nx t n ks) false).toNat) = true then .inl (3, (nk t n (nx t n ks) false).1) else nm t n (nx t n (nk t n (nx t n ks) false)) true (-999) 999 fun k2 v => .inr (nx t n k2, upF f (15 + (nv t n (nx t n ks) false).toNat) v, fillB tD (13 + (nv t n (nx t n ks) false).toNat) 1, bb)) at k1
    change K0 Q J B I (if tD (13 + (nv t n (nx t n ks) false).toNat) = true then .inl (3, (nk t n (nx t n ks) false).1) else nm t n (nx t n (nk t n (nx t n ks) false)) true (-999) 999 fun k2 v => .inr (nx t n k2, upF f (15 + (nv t n (nx t n ks) false).toNat) v, fillB tD (13 + (nv t n (nx t n ks) false).toNat) 1, bb)) at k0
    generalize nv t n (nx t n ks) false = q at hq k1 k0 a8
    generalize nk t n (nx t n ks) false = kq at a4 a7 hnk k1 k0
    obtain ⟨i, rfl⟩ : ∃ i : Nat, q = i := ⟨q.toNat, by omega⟩
    rw [gtn] at k1 k0
    have hR2 := hR1.f4 f2
    have hm : RMk (gi 1 <<< (gi (i : Int) &&& 31)) (0 + i) 1 := fun b hb => by rw [Nat.zero_add]; exact Bt_sh1 i (by omega) b hb
    rw [a8, hR2.2.2.2.1.any1 hm (by omega), show 13 + (0 + i) = 13 + i by omega]
    refine ⟨fun z2 => ?_, fun z2 => e_X3_fail ⟨Or.inl rfl, And.intro (Or.inl rfl) (And.intro (Or.inl rfl) ?_)⟩⟩
    · rw [if_neg (by rw [z2]; decide)] at k1 k0
      have hR3 := hR2.told2 hm
      rw [show 13 + (0 + i) = 13 + i by omega] at hR3
      refine z_adv hb hR3.1 ((gu_o (by decide)).trans a7) hnk.2.1 fun I3 f3 hK3 => ?_
      change Tk (nx t n kq) I3 at hK3
      have hR4 := hR3.f4 f3
      show gC _ _ _ _ _ _ _ _
      unfold nm at k1 k0
      have fc3 : FC I I3 := ((f1.tr f2).fc.up4 (by omega)).tr f3.fc
      refine z_rn true hb hR4.1 (nx_ok hnk) hK3 (by decide) (by decide) (by decide) (by decide) (fun z4 I4 f4 b4 b7 b8 => And.intro (fun _ => ⟨fun y => ?_, fun _ => ⟨fun y => ?_, fun _ => ⟨gvp (by omega) (by omega) (by decide), ?_⟩⟩⟩) (fun y => absurd y g10)) (fun er he z4 I4 f4 b3 b4 => And.intro (fun y => absurd rfl y) (fun _ => ⟨Or.inl rfl, And.intro (Or.inl rfl) ?_⟩))
      · rw [gi_lt (by omega) (by omega) (by omega) (by omega)] at y; omega
      · rw [gi_le (by omega) (by omega) (by omega) (by omega)] at y; omega
      · rw [if_pos z4] at k1
        rw [gi_c (by omega) (by omega), gtn, b8]
        have hR5 := (hR4.f4 f4).put2 (i := i) (a0 := 8) (v := nv t n (nx t n kq) true) (by omega) (by omega)
        refine z_adv hb hR5.1 ((if_neg (by omega)).trans b7) (nk_ok (nx_ok hnk)).2.1 fun I5 f5 hK5 => ⟨Or.inr rfl, And.intro (Or.inr rfl) (k1 _ rfl I5 (((fc3.tr f4.fc).up2 (by omega)).tr f5.fc) (hR5.f4 f5) hK5)⟩
      · rw [if_neg (by rw [z4]; exact he), z4] at k0
        exact k0 _ _ rfl I4 (fc3.tr f4.fc) b3 b4
    · rw [if_pos (by revert z2; cases tD (13 + i) <;> simp)] at k0
      exact k0 _ _ rfl _ ((f1.tr f2).fc.up4 (by omega)) gu_s ((gu_o (by decide)).trans a4)
  · rw [if_neg (by show ¬ ner t n (nx t n ks) false 0 (f 0 - 1) = 0; rw [z]; exact he)] at k0
    change K0 Q J B I (.inl (ner t n (nx t n ks) false 0 (f 0 - 1), (nk t n (nx t n ks) false).1)) at k0
    rw [z] at k0
    exact k0 _ _ rfl I2 (f1.fc.tr f2.fc) a3 a4
theorem z_part9 (hb : Tb t n) (hR : CB t n s.2.1 s.2.2.1 s.2.2.2 I) (hk : Tkk n s.1) (hK : Tk s.1 I) (hN : 1 ≤ s.2.1 0) (hN7 : s.2.1 0 ≤ 7) (k1 : K1 t n Q J B I (partL t n 22 20 s)) (k0 : K0 Q J B I (partL t n 22 20 s)) : gC E 27 [.inr (4, 0, 0), .inr (9, 2, 0), .inl (.int (gi 128))] I J B (fun v I J B => gvi v fun r => ((r = gi 0 ∨ r = gi 1) ∧ Q (.inl (.int r)) I J B)) X := by
  obtain ⟨ks, f, tD, bb⟩ := s
  change CB t n f tD bb I at hR
  change 1 ≤ f 0 at hN
  change f 0 ≤ 7 at hN7
  change Tkk n ks at hk
  refine e_X3_readPart_9 (z_adv hb hR.1 hK.2.1 hk.2.1 fun I1 f1 hK1 => ?_)
  change Tk (nx t n ks) I1 at hK1
  have hR1 := hR.f4 f1
  show gC _ _ _ _ _ _ _ _
  rw [hR1.2.1.1, gi_sub]
  unfold partL nm at k1 k0
  refine z_rn false hb hR1.1 (nx_ok hk) hK1 (by omega) (by omega) (by omega) (by omega) (fun z I2 f2 a4 a7 a8 => And.intro (fun _ => ?_) (fun y => absurd y g10)) (fun er he z I2 f2 a3 a4 => And.intro (fun y => absurd rfl y) (fun _ => ⟨Or.inl rfl, And.intro (Or.inl rfl) ?_⟩))
  · have hq := (ner0 z).2
    have hnk := nk_ok (t := t) (sg := false) (nx_ok (t := t) hk)
    rw [if_pos (show ner t n (nx t n (ks, f, tD, bb).1) false 0 ((ks, f, tD, bb).2.1 0 - 1) = 0 from z)] at k1 k0
    change K1 t n Q J B I (if tD (20 + (nv t n (nx t n ks) false).toNat) = true then .inl (3, (nk t n (nx t n ks) false).1) else nm t n (nx t n (nk t n (nx t n ks) false)) true (-999) 999 fun k2 v => .inr (nx t n k2, upF f (22 + (nv t n (nx t n ks) false).toNat) v, fillB tD (20 + (nv t n (nx t n ks) false).toNat) 1, bb)) at k1
    change K0 Q J B I (if tD (20 + (nv t n (nx t n ks) false).toNat) = true then .inl (3, (nk t n (nx t n ks) false).1) else nm t n (nx t n (nk t n (nx t n ks) false)) true (-999) 999 fun k2 v => .inr (nx t n k2, upF f (22 + (nv t n (nx t n ks) false).toNat) v, fillB tD (20 + (nv t n (nx t n ks) false).toNat) 1, bb)) at k0
    generalize nv t n (nx t n ks) false = q at hq k1 k0 a8
    generalize nk t n (nx t n ks) false = kq at a4 a7 hnk k1 k0
    obtain ⟨i, rfl⟩ : ∃ i : Nat, q = i := ⟨q.toNat, by omega⟩
    rw [gtn] at k1 k0
    have hR2 := hR1.f4 f2
    have hm : RMk (gi 128 <<< (gi (i : Int) &&& 31)) (7 + i) 1 := fun b hb => Bt_sh7 i (by omega) b hb
    rw [a8, hR2.2.2.2.1.any1 hm (by omega), show 13 + (7 + i) = 20 + i by omega]
    refine ⟨fun z2 => ?_, fun z2 => e_X3_fail ⟨Or.inl rfl, And.intro (Or.inl rfl) (And.intro (Or.inl rfl) ?_)⟩⟩
    · rw [if_neg (by rw [z2]; decide)] at k1 k0
      have hR3 := hR2.told2 hm
      rw [show 13 + (7 + i) = 20 + i by omega] at hR3
      refine z_adv hb hR3.1 ((gu_o (by decide)).trans a7) hnk.2.1 fun I3 f3 hK3 => ?_
      change Tk (nx t n kq) I3 at hK3
      have hR4 := hR3.f4 f3
      show gC _ _ _ _ _ _ _ _
      unfold nm at k1 k0
      have fc3 : FC I I3 := ((f1.tr f2).fc.up4 (by omega)).tr f3.fc
      refine z_rn true hb hR4.1 (nx_ok hnk) hK3 (by decide) (by decide) (by decide) (by decide) (fun z4 I4 f4 b4 b7 b8 => And.intro (fun _ => ⟨fun y => ?_, fun _ => ⟨fun y => ?_, fun _ => ⟨gvp (by omega) (by omega) (by decide), ?_⟩⟩⟩) (fun y => absurd y g10)) (fun er he z4 I4 f4 b3 b4 => And.intro (fun y => absurd rfl y) (fun _ => ⟨Or.inl rfl, And.intro (Or.inl rfl) ?_⟩))
      · rw [gi_lt (by omega) (by omega) (by omega) (by omega)] at y; omega
      · rw [gi_le (by omega) (by omega) (by omega) (by omega)] at y; omega
      · rw [if_pos z4] at k1
        rw [gi_c (by omega) (by omega), gtn, b8]
        have hR5 := (hR4.f4 f4).put2 (i := i) (a0 := 9) (v := nv t n (nx t n kq) true) (by omega) (by omega)
        refine z_adv hb hR5.1 ((if_neg (by omega)).trans b7) (nk_ok (nx_ok hnk)).2.1 fun I5 f5 hK5 => ⟨Or.inr rfl, And.intro (Or.inr rfl) (k1 _ rfl I5 (((fc3.tr f4.fc).up2 (by omega)).tr f5.fc) (hR5.f4 f5) hK5)⟩
      · rw [if_neg (by rw [z4]; exact he), z4] at k0
        exact k0 _ _ rfl I4 (fc3.tr f4.fc) b3 b4
    · rw [if_pos (by revert z2; cases tD (20 + i) <;> simp)] at k0
      exact k0 _ _ rfl _ ((f1.tr f2).fc.up4 (by omega)) gu_s ((gu_o (by decide)).trans a4)
  · rw [if_neg (by show ¬ ner t n (nx t n ks) false 0 (f 0 - 1) = 0; rw [z]; exact he)] at k0
    change K0 Q J B I (.inl (ner t n (nx t n ks) false 0 (f 0 - 1), (nk t n (nx t n ks) false).1)) at k0
    rw [z] at k0
    exact k0 _ _ rfl I2 (f1.fc.tr f2.fc) a3 a4
theorem z_line (hb : Tb t n) (hR : CB t n s.2.1 s.2.2.1 s.2.2.2 I) (hk : Tkk n s.1) (hK : Tk s.1 I) (hN : 1 ≤ s.2.1 0) (hN7 : s.2.1 0 ≤ 7) (hbb : s.2.2.2 ≤ 8) (k1 : K1 t n Q J B I (lineF t n s)) (k0 : K0 Q J B I (lineF t n s)) : gC E 24 [.inr (4, 0, 0)] I J B Q X := by
  unfold lineF at k1 k0
  refine e_X3_readLine (z_isW hb hR.1 (by decide) hk hK (fun z => And.intro (fun y => absurd y g10) (fun _ => ?_)) (fun z => And.intro (fun _ => ?_) (fun y => absurd rfl y)))
  · rw [if_pos z] at k1 k0
    exact z_diag hb hR hk hK hN hN7 k1 k0
  rw [if_neg (by rw [z]; decide)] at k1 k0
  refine z_isW hb hR.1 (by decide) hk hK (fun z => And.intro (fun y => absurd y g10) (fun _ => ?_)) (fun z => And.intro (fun _ => ?_) (fun y => absurd rfl y))
  · rw [if_pos z] at k1 k0
    obtain ⟨ks, f, tD, bb⟩ := s
    change CB t n f tD bb I at hR
    change bb ≤ 8 at hbb
    unfold bandL at k1 k0
    have e11 : I 4 0 0 11 + gi 1 = gi ((bb + 1 : Nat) : Int) := by rw [hR.2.2.2.2.1, gi_add]; rfl
    rw [e11]
    refine ⟨fun y => ?_, fun y => ?_⟩
    · rw [gi_le (by omega) (by omega) (by omega) (by omega)] at y
      rw [if_neg (show ¬ bb = 8 by omega)] at k1 k0
      exact z_band hb hR.bnd hk (hK.up (by decide)) hN hN7 (k1.fc (FC.rf.up4 (by omega))) (k0.fc (FC.rf.up4 (by omega)))
    · rw [gi_le (by omega) (by omega) (by omega) (by omega)] at y
      rw [if_pos (show bb = 8 by omega)] at k0
      exact z_fl1 (k0 _ _ rfl _ ((FC.rf.up4 (by omega)).up4 (by omega)) gu_s ((gu_o (by decide)).trans ((gu_o (by decide)).trans hK.1)))
  rw [if_neg (by rw [z]; decide)] at k1 k0
  refine z_isW hb hR.1 (by decide) hk hK (fun z => And.intro (fun y => absurd y g10) (fun _ => ?_)) (fun z => And.intro (fun _ => ?_) (fun y => absurd rfl y))
  · rw [if_pos z] at k1 k0
    exact z_part8 hb hR hk hK hN hN7 k1 k0
  rw [if_neg (by rw [z]; decide)] at k1 k0
  refine z_isW hb hR.1 (by decide) hk hK (fun z => And.intro (fun y => absurd y g10) (fun _ => ?_)) (fun z => And.intro (fun _ => ?_) (fun y => absurd rfl y))
  · rw [if_pos z] at k1 k0
    exact z_part9 hb hR hk hK hN hN7 k1 k0
  rw [if_neg (by rw [z]; decide)] at k0
  exact z_fl1 (k0 _ _ rfl _ (FC.rf.up4 (by omega)) gu_s ((gu_o (by decide)).trans hK.1))
end YD
