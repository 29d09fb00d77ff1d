/-! ===== the reference's reading: head and all ===== -/
def FRD (I I' : gI) : Prop := ∀ a b c d, ¬ (a = 31 ∧ (10 ≤ d ∧ d ≤ 16 ∨ d = 19)) → a ≠ 36 → a ≠ 37 → I' a b c d = I a b c d
section YQ
variable {E : gEn} {Q : gQt} {X : gXt} {I : gI} {J : gJ} {B : gB} {c w n e p st m bb : Nat} {t : Nat → Int} {lo hi x v : Int} {k : Tok} {f : Nat → Int} {tD : Nat → Bool} {s s' : PS}
theorem FRD.rf : FRD I I := fun _ _ _ _ _ _ _ => rfl
theorem FRD.tr {I' I2 : gI} (h : FRD I I') (h2 : FRD I' I2) : FRD I I2 := fun a b c d h3 h4 h5 => (h2 a b c d h3 h4 h5).trans (h a b c d h3 h4 h5)
theorem FR2.d {I' : gI} (h : FR2 I I') : FRD I I' := fun a b c d z h4 h5 => h a b c d (by omega) h4 h5
theorem FRD.up31 {I' : gI} {d : Nat} {x : Int32} (h : FRD I I') (hd : 10 ≤ d ∧ d ≤ 16 ∨ d = 19) : FRD I (gUI I' 31 0 0 d x) := fun a b c d2 z h4 h5 => by
  rw [gUI_at, if_neg (fun q => z ⟨q.1, by omega⟩)]
  exact h a b c d2 z h4 h5
theorem FRD.up {I' : gI} {a0 d : Nat} {x : Int32} (h : FRD I I') (hd : a0 = 36 ∨ a0 = 37) : FRD I (gUI I' a0 0 0 d x) := fun a b c d2 z h4 h5 => by
  rw [gUI_at, if_neg (by omega)]
  exact h a b c d2 z h4 h5
theorem m_ex (hb : Tb t n) (hT : Tm t n I) (hm : m < 6) (hk : Tkk n k) (hK : Mt k I) (hw : I 31 0 0 15 = gi 0) (k1 : isWF t k m = true → ∀ I', FM I I' → Mt (nx t n k) I' → Q (.inl .null) I' J B) (k0 : isWF t k m = false → Q (.inl .null) (WR I 1) J B) : gC E 147 [.inr (31, 0, 0), .inr (2, m, 0)] I J B Q X :=
  e_X8_expects (m_isW hb hT hm hk hK hw (fun z => And.intro (fun _ => m_go hb hT hw hK.2.1 hk.2.1 (fun I' f h => k1 z I' f h)) (fun y => absurd y g10)) (fun z => And.intro (fun y => absurd rfl y) (fun _ => e_X8_fails ⟨fun y => absurd hw y, fun _ => m_go0 (by
    have e : (gUI (gUI I 31 0 0 15 (gi 1)) 31 0 0 16 (I 31 0 0 12)) 31 0 0 15 = gi 1 := (gu_o (by decide)).trans gu_s
    rw [e]; decide) (k0 z)⟩)))
theorem m_ex0 (hw : ¬ I 31 0 0 15 = gi 0) (k : Q (.inl .null) I J B) : gC E 147 [.inr (31, 0, 0), .inr (2, m, 0)] I J B Q X :=
  e_X8_expects (m_isW0 hw (And.intro (fun y => absurd rfl y) (fun _ => e_X8_fails ⟨fun _ => m_go0 hw k, fun y => absurd y hw⟩)))
theorem m_tk (hb : Tb t n) (hT : Tm t n I) (hk : Tkk n k) (hK : Mt k I) (h3 : -100000 ≤ lo) (h4 : lo ≤ 100000) (h5 : -100000 ≤ hi) (h6 : hi ≤ 100000) (hw : I 31 0 0 15 = gi 0) (k1 : ner t n k false lo hi = 0 → ∀ I', FM I I' → Mt (nx t n k) I' → Q (.inl (.int (gi (nv t n k false)))) I' J B) (k0 : ∀ er, er ≠ 0 → er ≤ 2 → ner t n k false lo hi = er → Q (.inl (.int (gi lo))) (WR I er) J B) : gC E 149 [.inr (31, 0, 0), .inl (.int (gi lo)), .inl (.int (gi hi))] I J B Q X :=
  e_X8_takes (m_nh (t := t) hk hK h3 h4 h5 h6 hw (fun z => m_go hb hT hw hK.2.1 hk.2.1 (fun I' f h => k1 z I' f h)) (fun er he z => m_go0 (by
    have hle : er ≤ 2 := by rw [← z]; exact ner_b
    rw [wr15]; exact gi_n0 (by omega) (by omega)) (k0 er he (by rw [← z]; exact ner_b) z)))
theorem m_tk0 (h3 : -100000 ≤ lo) (h4 : lo ≤ 100000) (h5 : -100000 ≤ hi) (h6 : hi ≤ 100000) (hw : ¬ I 31 0 0 15 = gi 0) (k : Q (.inl (.int (gi lo))) I J B) : gC E 149 [.inr (31, 0, 0), .inl (.int (gi lo)), .inl (.int (gi hi))] I J B Q X :=
  e_X8_takes (m_nh0 h3 h4 h5 h6 hw (m_go0 hw k))
theorem vq0 : vp_in (gi 0) 408 := gvp (by decide) (by decide) (by decide)
theorem vq1 : vp_in (gi 1) 408 := gvp (by decide) (by decide) (by decide)
/-! what is left behind an error -/
theorem m_e4 (hw : ¬ I 31 0 0 15 = gi 0) (k : Q (.inl .null) (gUI I 36 0 0 1 (gi 2)) J B) : gC E 149 [.inr (31, 0, 0), .inl (.int (gi 2)), .inl (.int (gi 31))] I J B (fun v I J B => gvi v fun r => (vp_in (gi 1) 408 ∧ gG E 155 144 [(0, .inr (31, 0, 0))] [] (gUI I 36 0 0 1 r) J B c w Q X)) X :=
  m_tk0 (by decide) (by decide) (by decide) (by decide) hw (And.intro vq1 (m_144e (by rw [gUI_at, if_neg (by omega)]; exact hw) k))
theorem m_e2 {Z : gI → gJ → gB → Prop} (hw : ¬ I 31 0 0 15 = gi 0) (k : Q (.inl .null) (gUI I 36 0 0 1 (gi 2)) J B) : gC E 147 [.inr (31, 0, 0), .inr (2, 1, 0)] I J B (fun _ I J B => ((¬ I 31 0 0 15 = gi 0 → gC E 149 [.inr (31, 0, 0), .inl (.int (gi 2)), .inl (.int (gi 31))] I J B (fun v I J B => gvi v fun r => (vp_in (gi 1) 408 ∧ gG E 155 144 [(0, .inr (31, 0, 0))] [] (gUI I 36 0 0 1 r) J B c w Q X)) X) ∧ (I 31 0 0 15 = gi 0 → Z I J B))) X :=
  m_ex0 hw (And.intro (fun _ => m_e4 hw k) (fun z => absurd z hw))
theorem RB.row {r : Nat} (h : RB t n f tD bb I) : RB t n (upF f r v) tD bb (gUI I 36 0 0 r (gi v)) := by
  obtain ⟨g1, g2, g3, g4, g5⟩ := h
  refine ⟨⟨(if_neg (by omega)).trans g1.1, fun q hq => (if_neg (by omega)).trans (g1.2 q hq)⟩, fun q hq => ?_, fun j hj => (if_neg (by omega)).trans (g3 j hj), (if_neg (by omega)).trans g4, (if_neg (by omega)).trans g5⟩
  rw [gUI_at]
  unfold upF
  by_cases z : q = r
  · rw [if_pos ⟨rfl, rfl, rfl, z⟩, if_pos z]
  · rw [if_neg (fun y => z y.2.2.2), if_neg z]
    exact g2 q hq
theorem Mt.row {r : Nat} {y : Int32} (h : Mt k I) : Mt k (gUI I 36 0 0 r y) := by
  obtain ⟨g1, g2, g3, g4⟩ := h
  exact ⟨(if_neg (by omega)).trans g1, (if_neg (by omega)).trans g2, (if_neg (by omega)).trans g3, fun z => (if_neg (by omega)).trans (g4 z)⟩
theorem PE.wr {er pos r : Nat} {y : Int32} (h1 : 1 ≤ er) (h2 : er ≤ 4) (h : I 31 0 0 12 = gi pos) : PE (.inl (er, pos)) (gUI (WR I er) 36 0 0 r y) := ⟨h1, h2, (if_neg (by omega)).trans wr15, (if_neg (by omega)).trans (wr16.trans h)⟩
theorem f0P_0 {N p : Int} : f0P N p 0 = N := by
  unfold f0P upF
  rw [if_neg (by decide), if_pos rfl]
theorem f0P_1 {N p : Int} : f0P N p 1 = p := by
  unfold f0P upF
  rw [if_pos rfl]
theorem f0P_n {N p : Int} {m : Nat} (h : 2 ≤ m) : f0P N p m = 0 := by
  unfold f0P upF
  rw [if_neg (by omega), if_neg (by omega)]
theorem f0P_V {N p : Int} (h1 : 1 ≤ N) (h2 : N ≤ 7) (hp : p ∈ primesL) {tD : Nat → Bool} : Vp (k, f0P N p, tD, 0) := by
  refine ⟨?_, ?_, fun i hi => ?_, fun i hi => ?_, fun i hi => ?_, fun i hi => ?_, ?_, Nat.zero_le _⟩
  · show 1 ≤ f0P N p 0 ∧ f0P N p 0 ≤ 7
    rw [f0P_0]; exact ⟨h1, h2⟩
  · show f0P N p 1 ∈ primesL
    rw [f0P_1]; exact hp
  · show -50 ≤ f0P N p (2 + i) ∧ f0P N p (2 + i) ≤ 50
    rw [f0P_n (by omega)]; decide
  · show -999 ≤ f0P N p (15 + i) ∧ f0P N p (15 + i) ≤ 999
    rw [f0P_n (by omega)]; decide
  · show -999 ≤ f0P N p (22 + i) ∧ f0P N p (22 + i) ≤ 999
    rw [f0P_n (by omega)]; decide
  · exact f0P_n (by omega)
  · exact f0P_n (N := N) (p := p) (m := 317) (by decide)
/-- the head, from the prime's number on -/
theorem m_h3 (hb : Tb t n) {N : Int} (hN : 1 ≤ N ∧ N ≤ 7) (hk : Tkk n k) (hK : Mt k I) (hR : RB t n (upF (fun _ => 0) 0 N) (fun _ => false) 0 I) (kk : ∀ I', FR2 I I' → PE (head3 t n N k) I' → Q (.inl .null) I' J B) : (¬ I 31 0 0 13 = gi 2 → gC E 149 [.inr (31, 0, 0), .inl (.int (gi 2)), .inl (.int (gi 31))] I J B (fun v I J B => gvi v fun r => (vp_in (gi 1) 408 ∧ gG E 155 144 [(0, .inr (31, 0, 0))] [] (gUI I 36 0 0 1 r) J B c w Q X)) X) ∧ (I 31 0 0 13 = gi 2 → gC E 134 [.inl (.int (I 31 0 0 14))] I J B (fun v I J B => gvi v fun r => ((¬ r = gi (-1) → gC E 149 [.inr (31, 0, 0), .inl (.int (gi 2)), .inl (.int (gi 31))] I J B (fun v I J B => gvi v fun r => (vp_in (gi 1) 408 ∧ gG E 155 144 [(0, .inr (31, 0, 0))] [] (gUI I 36 0 0 1 r) J B c w Q X)) X) ∧ (r = gi (-1) → gC E 144 [.inr (31, 0, 0), .inl (.int (gi 2))] I J B (fun _ I J B => gC E 149 [.inr (31, 0, 0), .inl (.int (gi 2)), .inl (.int (gi 31))] I J B (fun v I J B => gvi v fun r => (vp_in (gi 1) 408 ∧ gG E 155 144 [(0, .inr (31, 0, 0))] [] (gUI I 36 0 0 1 r) J B c w Q X)) X) X))) X) := by
  have hw := hR.2.2.2.2
  have e2 := km2 hk hK
  have en : nk t n k false = k := if_neg (fun h => absurd h.1 (by decide))
  have ev : nv t n k false = k.2.2.2 := if_neg (fun h => absurd h.1 (by decide))
  unfold head3 at kk
  rw [e2]
  refine ⟨fun z => ?_, fun z => ?_⟩
  · rw [if_neg z] at kk
    refine m_tk hb hR.1 hk hK (by decide) (by decide) (by decide) (by decide) hw (fun z2 => ?_) (fun er he hl z2 => And.intro vq1 (m_144e ?_ ?_))
    · have z3 := (ner0 z2).1
      rw [en] at z3
      exact absurd z3 z
    · rw [gUI_at, if_neg (by omega), wr15]; exact gi_n0 (by omega) (by omega)
    · have e1 : er = 1 := by
        rw [← z2]
        unfold ner
        rw [en, if_neg z]
      subst e1
      exact kk _ (WR.r2.up (by omega)) (PE.wr (by decide) (by decide) hK.1)
  · rw [if_pos z] at kk
    have hk2 := hk
    obtain ⟨r1, r2, r3, r4, r5⟩ := hk2
    rw [hK.2.2.2 z]
    refine z_ix (by omega) (by omega) (fun hp i hi => And.intro (fun _ => ?_) (fun y => ?_)) (fun hp => And.intro (fun y => absurd rfl y) (fun _ => ?_))
    · have pb := pr_b hp
      rw [if_pos hp] at kk
      refine m_tk hb hR.1 hk hK (by decide) (by decide) (by decide) (by decide) hw (fun z2 I' f' hK' => And.intro vq1 ?_) (fun er he hl z2 => ?_)
      · rw [ev]
        have hR' : RB t n (f0P N k.2.2.2) (fun _ => false) 0 (gUI I' 36 0 0 1 (gi k.2.2.2)) := (hR.fm f').row
        exact m_loop hb 701 (nx t n k, f0P N k.2.2.2, fun _ => false, 0) _ (by have := hb.1; omega) hR' (nx_ok hk) hK'.row (f0P_V hN.1 hN.2 hp) fun I2 f2 hP => kk I2 ((f'.r2.up (by omega)).tr f2) hP
      · exfalso
        unfold ner at z2
        rw [en, ev, if_pos z, if_pos pb] at z2
        omega
    · rw [gi_eq (by omega) (by omega) (by omega) (by omega)] at y
      omega
    · rw [if_neg hp] at kk
      refine e_X8_fails ⟨fun y => absurd hw y, fun _ => ?_⟩
      have e15 : ¬ (WR I 2) 31 0 0 15 = gi 0 := by rw [wr15]; decide
      exact m_e4 e15 (kk _ (WR.r2.up (by omega)) (PE.wr (by decide) (by decide) hK.1))
def S0 (n : Nat) (I : gI) : Prop := I 31 0 0 10 = gi n ∧ I 31 0 0 11 = gi 0 ∧ I 31 0 0 15 = gi 0 ∧ I 31 0 0 19 = gi 0
theorem S0.up {a0 d : Nat} {x : Int32} (h : S0 n I) (ha : a0 = 36 ∨ a0 = 37) : S0 n (gUI I a0 0 0 d x) :=
  ⟨(if_neg (by omega)).trans h.1, (if_neg (by omega)).trans h.2.1, (if_neg (by omega)).trans h.2.2.1, (if_neg (by omega)).trans h.2.2.2⟩
theorem nar0 : vp_nar .boolean (gi 0) = gi 0 := by decide
theorem m_l49 {I0 : gI} (hb : Tb t n) (kk : ∀ I', FRD I0 I' → PE (parseF t n) I' → Q (.inl .null) I' J B) (hB : ∀ k, k < n → I0 35 0 0 k = gi (t k)) : ∀ (j i : Nat) (I1 : gI), 27 - i = j → i ≤ 27 → FRD I0 I1 → S0 n I1 → (∀ q, q < 408 → I1 36 0 0 q = gi 0) → (∀ q, q < i → I1 37 0 0 q = gi 0) → gG E 155 49 [(0, .inr (31, 0, 0)), (2, .inl (.int (gi i)))] [] I1 J B c w Q X := by
  intro j
  induction j with
  | zero =>
    intro i I1 h1 h2 fr hS hz hz2
    have hi : i = 27 := by omega
    subst hi
    have hR : RB t n (fun _ => 0) (fun _ => false) 0 I1 := ⟨⟨hS.1, fun q hq => (fr 35 0 0 q (by omega) (by decide) (by decide)).trans (hB q hq)⟩, hz, fun q hq => hz2 q hq, hS.2.2.2, hS.2.2.1⟩
    unfold parseF at kk
    refine s_X8_reads_49 ⟨fun _ => ?_, fun z => by rw [gi_le (by omega) (by omega) (by omega) (by omega)] at z; omega⟩
    refine z_token (e := 0) hb hR.1 hS.2.1 (Nat.zero_le _) fun I2 f2 hK2 => ?_
    have hk2 := tokF_ok (t := t) (Nat.zero_le n)
    have hR2 := hR.fm f2
    generalize tokF t n 0 = k0 at hK2 hk2 kk
    show gC _ _ _ _ _ _ _ _
    refine m_ex hb hR2.1 (by decide) hk2 hK2 hR2.2.2.2.2 (fun z I3 f3 hK3 => ?_) (fun z => ?_)
    · rw [if_pos z] at kk
      have hk3 := nx_ok (t := t) hk2
      have hR3 := hR2.fm f3
      generalize nx t n k0 = k1 at hK3 hk3 kk
      unfold head1 at kk
      have en : nk t n k1 false = k1 := if_neg (fun h => absurd h.1 (by decide))
      have ev : nv t n k1 false = k1.2.2.2 := if_neg (fun h => absurd h.1 (by decide))
      show gC _ _ _ _ _ _ _ _
      refine m_tk hb hR3.1 hk3 hK3 (by decide) (by decide) (by decide) (by decide) hR3.2.2.2.2 (fun z4 I4 f4 hK4 => And.intro vq0 ?_) (fun er he hl z4 => And.intro vq0 ?_)
      · rw [if_pos z4] at kk
        have hN := (ner0 z4).2
        rw [ev] at hN ⊢
        have hR4 : RB t n (upF (fun _ => 0) 0 k1.2.2.2) (fun _ => false) 0 (gUI I4 36 0 0 0 (gi k1.2.2.2)) := (hR3.fm f4).row
        have hk4 := nx_ok (t := t) hk3
        have hK4' : Mt (nx t n k1) (gUI I4 36 0 0 0 (gi k1.2.2.2)) := hK4.row
        have fr4 : FRD I0 (gUI I4 36 0 0 0 (gi k1.2.2.2)) := ((fr.tr f2.r2.d).tr (f3.tr f4).r2.d).up (by omega)
        generalize nx t n k1 = k2 at hK4' hk4 kk
        generalize gUI I4 36 0 0 0 (gi k1.2.2.2) = I5 at hR4 hK4' fr4 ⊢
        unfold head2 at kk
        refine m_ex hb hR4.1 (by decide) hk4 hK4' hR4.2.2.2.2 (fun z5 I6 f6 hK6 => ?_) (fun z5 => ?_)
        · rw [if_pos z5] at kk
          have g := m_h3 (E := E) (Q := Q) (X := X) (J := J) (B := B) (c := c) (w := w) hb hN (nx_ok hk4) hK6 (hR4.fm f6) (fun I7 f7 hP => kk I7 ((fr4.tr f6.r2.d).tr f7.d) hP)
          exact And.intro (fun y => absurd (hR4.fm f6).2.2.2.2 y) (fun _ => g)
        · rw [if_neg (by rw [z5]; decide)] at kk
          have e15 : ¬ (WR I5 1) 31 0 0 15 = gi 0 := by rw [wr15]; decide
          exact And.intro (fun _ => m_e4 e15 (kk _ ((fr4.tr WR.r2.d).up (by omega)) (PE.wr (by decide) (by decide) hK4'.1))) (fun y => absurd y e15)
      · rw [if_neg (by rw [z4]; exact he), z4] at kk
        have e15 : ¬ (gUI (WR I3 er) 36 0 0 0 (gi 1)) 31 0 0 15 = gi 0 := by rw [gUI_at, if_neg (by omega), wr15]; exact gi_n0 (by omega) (by omega)
        refine m_e2 e15 (kk _ ((((fr.tr (f2.tr f3).r2.d).tr WR.r2.d).up (by omega)).up (by omega)) ⟨by omega, by omega, ?_, ?_⟩)
        · rw [gUI_at, if_neg (by omega), gUI_at, if_neg (by omega), wr15]
        · rw [gUI_at, if_neg (by omega), gUI_at, if_neg (by omega), wr16]; exact hK3.1
    · rw [if_neg (by rw [z]; decide)] at kk
      have e15 : ¬ (WR I2 1) 31 0 0 15 = gi 0 := by rw [wr15]; decide
      show gC _ _ _ _ _ _ _ _
      refine m_tk0 (by decide) (by decide) (by decide) (by decide) e15 (And.intro vq0 ?_)
      have e15' : ¬ (gUI (WR I2 1) 36 0 0 0 (gi 1)) 31 0 0 15 = gi 0 := by rw [gUI_at, if_neg (by omega)]; exact e15
      refine m_e2 e15' (kk _ ((((fr.tr f2.r2.d).tr WR.r2.d).up (by omega)).up (by omega)) ⟨by decide, by decide, ?_, ?_⟩)
      · rw [gUI_at, if_neg (by omega), gUI_at, if_neg (by omega), wr15]
      · rw [gUI_at, if_neg (by omega), gUI_at, if_neg (by omega), wr16]; exact hK2.1
  | succ j ih =>
    intro i I1 h1 h2 fr hS hz hz2
    refine s_X8_reads_49 ⟨fun z => by rw [gi_le (by omega) (by omega) (by omega) (by omega)] at z; omega, fun _ => ⟨gvp (by omega) (by omega) (by decide), ?_⟩⟩
    rw [nar0, gi_c (by omega) (by omega), gtn, show gi (i : Int) + gi 1 = gi ((i + 1 : Nat) : Int) from gi_add _ _]
    refine ih (i + 1) _ (by omega) (by omega) (fr.up (by omega)) (hS.up (by omega)) (fun q hq => (if_neg (by omega)).trans (hz q hq)) (fun q hq => ?_)
    rw [gUI_at]
    by_cases y : q = i
    · rw [if_pos ⟨rfl, rfl, rfl, y⟩]
    · rw [if_neg (fun z => y z.2.2.2)]
      exact hz2 q (by omega)
theorem m_l27 {I0 : gI} (hb : Tb t n) (kk : ∀ I', FRD I0 I' → PE (parseF t n) I' → Q (.inl .null) I' J B) (hB : ∀ k, k < n → I0 35 0 0 k = gi (t k)) : ∀ (j i : Nat) (I1 : gI), 408 - i = j → i ≤ 408 → FRD I0 I1 → S0 n I1 → (∀ q, q < i → I1 36 0 0 q = gi 0) → gG E 155 27 [(0, .inr (31, 0, 0)), (2, .inl (.int (gi i)))] [] I1 J B c w Q X := by
  intro j
  induction j with
  | zero =>
    intro i I1 h1 h2 fr hS hz
    refine s_X8_reads_27 ⟨fun _ => ?_, fun z => by rw [gi_le (by omega) (by omega) (by omega) (by omega)] at z; omega⟩
    exact m_l49 hb kk hB 27 0 I1 rfl (Nat.zero_le _) fr hS (fun q hq => hz q (by omega)) (fun q hq => absurd hq (Nat.not_lt_zero q))
  | succ j ih =>
    intro i I1 h1 h2 fr hS hz
    refine s_X8_reads_27 ⟨fun z => by rw [gi_le (by omega) (by omega) (by omega) (by omega)] at z; omega, fun _ => ⟨gvp (by omega) (by omega) (by decide), ?_⟩⟩
    rw [gi_c (by omega) (by omega), gtn, show gi (i : Int) + gi 1 = gi ((i + 1 : Nat) : Int) from gi_add _ _]
    refine ih (i + 1) _ (by omega) (by omega) (fr.up (by omega)) (hS.up (by omega)) (fun q hq => ?_)
    rw [gUI_at]
    by_cases y : q = i
    · rw [if_pos ⟨rfl, rfl, rfl, y⟩]
    · rw [if_neg (fun z => y z.2.2.2)]
      exact hz q (by omega)
theorem m_reads (hb : Tb t n) (hB : ∀ k, k < n → I 35 0 0 k = gi (t k)) (kk : ∀ I', FRD I I' → PE (parseF t n) I' → Q (.inl .null) I' J B) : gC E 155 [.inr (31, 0, 0), .inl (.int (gi n))] I J B Q X := by
  refine e_X8_reads (m_l27 hb kk hB 408 0 _ rfl (Nat.zero_le _) (((((FRD.rf.up31 (by omega)).up31 (by omega)).up31 (by omega)).up31 (by omega)).up31 (by omega)) ⟨?_, ?_, ?_, ?_⟩ (fun q hq => absurd hq (Nat.not_lt_zero q)))
  · rw [gu_o (by decide), gu_o (by decide), gu_o (by decide), gu_o (by decide), gu_s]
  · rw [gu_o (by decide), gu_o (by decide), gu_o (by decide), gu_s]
  · rw [gu_o (by decide), gu_o (by decide), gu_s]
  · rw [gu_s]
end YQ
