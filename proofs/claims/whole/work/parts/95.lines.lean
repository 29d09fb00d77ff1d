/-! ===== the reference's lines ===== -/
abbrev PS : Type := Tok × (Nat → Int) × (Nat → Bool) × Nat
abbrev PR : Type := (Nat × Nat) ⊕ PS
def nm (t : Nat → Int) (n : Nat) (k : Tok) (sg : Bool) (lo hi : Int) (go : Tok → Int → PR) : PR := if ner t n k sg lo hi = 0 then go (nk t n k sg) (nv t n k sg) else .inl (ner t n k sg lo hi, (nk t n k sg).1)
def anB (tD : Nat → Bool) : Nat → Nat → Bool
  | _, 0 => false
  | p, c + 1 => tD p || anB tD (p + 1) c
def fillF (f : Nat → Int) (p c : Nat) (v : Int) : Nat → Int := fun j => if 2 + p ≤ j ∧ j < 2 + p + c then v else f j
def fillB (tD : Nat → Bool) (p c : Nat) : Nat → Bool := fun j => if p ≤ j ∧ j < p + c then true else tD j
/-- behind a range of diagonals: its value -/
def rngV (t : Nat → Int) (n : Nat) (f : Nat → Int) (tD : Nat → Bool) (b : Nat) (k : Tok) (p c : Nat) : PR := if anB tD p c = true then .inl (3, k.1) else nm t n (nx t n k) true (-50) 50 fun k2 v => .inr (nx t n k2, fillF f p c v, fillB tD p c, b)
def diagL (t : Nat → Int) (n : Nat) (s : PS) : PR := nm t n (nx t n s.1) true (1 - s.2.1 0) (s.2.1 0 - 1) fun k1 q => rngV t n s.2.1 s.2.2.1 s.2.2.2 k1 (q + 6).toNat 1
def bandL (t : Nat → Int) (n : Nat) (s : PS) : PR := if s.2.2.2 = 8 then .inl (4, s.1.1) else nm t n (nx t n s.1) true (1 - s.2.1 0) (s.2.1 0 - 1) fun k1 lo => nm t n (nx t n k1) true lo (s.2.1 0 - 1) fun k2 hi => rngV t n s.2.1 s.2.2.1 (s.2.2.2 + 1) k2 (lo + 6).toNat (hi + 1 - lo).toNat
def partL (t : Nat → Int) (n r l : Nat) (s : PS) : PR := nm t n (nx t n s.1) false 0 (s.2.1 0 - 1) fun k1 i => if s.2.2.1 (l + i.toNat) = true then .inl (3, k1.1) else nm t n (nx t n k1) true (-999) 999 fun k2 v => .inr (nx t n k2, upF s.2.1 (r + i.toNat) v, fillB s.2.2.1 (l + i.toNat) 1, s.2.2.2)
/-- the reference amid a text with no error so far -/
def RB (t : Nat → Int) (n : Nat) (f : Nat → Int) (tD : Nat → Bool) (b : Nat) (I : gI) : Prop := Tm t n I ∧ (∀ q, q < 408 → I 36 0 0 q = gi (f q)) ∧ (∀ j, j < 27 → I 37 0 0 j = gi (if tD j = true then 1 else 0)) ∧ I 31 0 0 19 = gi b ∧ I 31 0 0 15 = gi 0
def FR2 (I I' : gI) : Prop := ∀ a b c d, ¬ (a = 31 ∧ (11 ≤ d ∧ d ≤ 16 ∨ d = 19)) → a ≠ 36 → a ≠ 37 → I' a b c d = I a b c d
def PM (t : Nat → Int) (n : Nat) (R : PR) (I : gI) : Prop := match R with
  | .inl (er, pos) => 1 ≤ er ∧ er ≤ 4 ∧ I 31 0 0 15 = gi er ∧ I 31 0 0 16 = gi pos
  | .inr s => RB t n s.2.1 s.2.2.1 s.2.2.2 I ∧ Tkk n s.1 ∧ Mt s.1 I
section YX
variable {E : gEn} {Q : gQt} {X : gXt} {I : gI} {J : gJ} {B : gB} {c w n e p st m bb : Nat} {t : Nat → Int} {lo hi x v : Int} {k : Tok} {f : Nat → Int} {tD : Nat → Bool} {s : PS}
theorem RB.fm {I' : gI} (h : RB t n f tD bb I) (g : FM I I') : RB t n f tD bb I' := ⟨h.1.fm g, fun q hq => (g 36 0 0 q (by omega)).trans (h.2.1 q hq), fun j hj => (g 37 0 0 j (by omega)).trans (h.2.2.1 j hj), (g 31 0 0 19 (by omega)).trans h.2.2.2.1, (g 31 0 0 15 (by omega)).trans h.2.2.2.2⟩
theorem FR2.rf : FR2 I I := fun _ _ _ _ _ _ _ => rfl
theorem FR2.tr {I' I2 : gI} (h : FR2 I I') (h2 : FR2 I' I2) : FR2 I I2 := fun a b c d h3 h4 h5 => (h2 a b c d h3 h4 h5).trans (h a b c d h3 h4 h5)
theorem FM.r2 {I' : gI} (h : FM I I') : FR2 I I' := fun a b c d z _ _ => h a b c d (by omega)
theorem WR.r2 {er : Nat} : FR2 I (WR I er) := fun a b c d z _ _ => by
  unfold WR
  rw [gUI_at, if_neg (by omega), gUI_at, if_neg (by omega)]
theorem FR2.up31 {I' : gI} {d : Nat} {x : Int32} (h : FR2 I I') (hd : 11 ≤ d ∧ d ≤ 16 ∨ d = 19) : FR2 I (gUI I' 31 0 0 d x) := fun a b c d2 z h4 h5 => by
  rw [gUI_at, if_neg (fun q => z ⟨q.1, by omega⟩)]
  exact h a b c d2 z h4 h5
theorem FR2.up {I' : gI} {a0 d : Nat} {x : Int32} (h : FR2 I I') (hd : a0 = 36 ∨ a0 = 37) : FR2 I (gUI I' a0 0 0 d x) := fun a b c d2 z h4 h5 => by
  rw [gUI_at, if_neg (by omega)]
  exact h a b c d2 z h4 h5
theorem wr15 {er : Nat} : (WR I er) 31 0 0 15 = gi er := (gu_o (by decide)).trans gu_s
theorem wr16 {er : Nat} : (WR I er) 31 0 0 16 = I 31 0 0 12 := gu_s
theorem gi_n0 {er : Nat} (h1 : 1 ≤ er) (h2 : er ≤ 4) : ¬ gi (er : Int) = gi 0 := fun z => by
  rw [gi_eq (by omega) (by omega) (by omega) (by omega)] at z
  omega
theorem ner_b {sg : Bool} : ner t n k sg lo hi ≤ 2 := by
  unfold ner
  split
  · split <;> decide
  · decide
theorem m_go (hb : Tb t n) (hT : Tm t n I) (hw : I 31 0 0 15 = gi 0) (he : I 31 0 0 11 = gi e) (hn : e ≤ n) (k : ∀ I', FM I I' → Mt (tokF t n e) I' → Q (.inl .null) I' J B) : gC E 145 [.inr (31, 0, 0)] I J B Q X :=
  e_X8_goesOn ⟨fun z => absurd hw z, fun _ => z_token hb hT he hn k⟩
theorem m_go0 (hw : ¬ I 31 0 0 15 = gi 0) (k : Q (.inl .null) I J B) : gC E 145 [.inr (31, 0, 0)] I J B Q X :=
  e_X8_goesOn ⟨fun _ => k, fun z => absurd z hw⟩
theorem m_ts0 (h3 : -100000 ≤ lo) (h4 : lo ≤ 100000) (h5 : -100000 ≤ hi) (h6 : hi ≤ 100000) (hw : ¬ I 31 0 0 15 = gi 0) (k : Q (.inl (.int (gi lo))) I J B) : gC E 151 [.inr (31, 0, 0), .inl (.int (gi lo)), .inl (.int (gi hi))] I J B Q X :=
  e_X8_takesSigned (m_sh0 h3 h4 h5 h6 hw (m_go0 hw k))
theorem nk_ok {sg : Bool} (hk : Tkk n k) : Tkk n (nk t n k sg) := by
  unfold nk
  split
  · exact nx_ok hk
  · exact hk
theorem m_ts (hb : Tb t n) (hT : Tm t n I) (hk : Tkk n k) (hK : Mt k I) (h3 : -100000 ≤ lo) (h4 : lo ≤ 100000) (h5 : -100000 ≤ hi) (h6 : hi ≤ 100000) (hw : I 31 0 0 15 = gi 0) (k1 : ner t n k true lo hi = 0 → ∀ I', FM I I' → Mt (nx t n (nk t n k true)) I' → Q (.inl (.int (gi (nv t n k true)))) I' J B) (k0 : ∀ er, er ≠ 0 → er ≤ 2 → ner t n k true lo hi = er → ∀ I', FM I I' → I' 31 0 0 12 = gi (nk t n k true).1 → Q (.inl (.int (gi lo))) (WR I' er) J B) : gC E 151 [.inr (31, 0, 0), .inl (.int (gi lo)), .inl (.int (gi hi))] I J B Q X := by
  refine e_X8_takesSigned (m_sh hb hT hk hK h3 h4 h5 h6 hw (fun z I1 f1 a1 a2 => ?_) (fun er he z I1 f1 a1 => ?_))
  · exact m_go hb (hT.fm f1) ((f1 31 0 0 15 (by omega)).trans hw) a2 (nk_ok hk).2.1 fun I2 f2 hK2 => k1 z I2 (f1.tr f2) hK2
  · have hle : er ≤ 2 := by rw [← z]; exact ner_b
    exact m_go0 (by rw [wr15]; exact gi_n0 (by omega) (by omega)) (k0 er he hle z I1 f1 a1)
/-- a line's end behind an error -/
theorem m_tl0 {P : Int32 → gI → gJ → gB → Prop} (h3 : -100000 ≤ lo) (h4 : lo ≤ 100000) (h5 : -100000 ≤ hi) (h6 : hi ≤ 100000) (hw : ¬ I 31 0 0 15 = gi 0) (k : Q (.inl .null) I J B) : gC E 145 [.inr (31, 0, 0)] I J B (fun _ I J B => gC E 151 [.inr (31, 0, 0), .inl (.int (gi lo)), .inl (.int (gi hi))] I J B (fun v I J B => gvi v fun r => ((¬ I 31 0 0 15 = gi 0 → Q (.inl .null) I J B) ∧ (I 31 0 0 15 = gi 0 → P r I J B))) X) X :=
  m_go0 hw (m_ts0 h3 h4 h5 h6 hw (And.intro (fun _ => k) (fun z => absurd z hw)))
theorem m_tl1 {P : Int32 → gI → gJ → gB → Prop} (hb : Tb t n) (hT : Tm t n I) (he : I 31 0 0 11 = gi e) (hn : e ≤ n) (h3 : -100000 ≤ lo) (h4 : lo ≤ 100000) (h5 : -100000 ≤ hi) (h6 : hi ≤ 100000) (hw : I 31 0 0 15 = gi 0) (k1 : ner t n (tokF t n e) true lo hi = 0 → ∀ I', FM I I' → Mt (nx t n (nk t n (tokF t n e) true)) I' → P (gi (nv t n (tokF t n e) true)) I' J B) (k0 : ∀ er, er ≠ 0 → er ≤ 2 → ner t n (tokF t n e) true lo hi = er → ∀ I', FM I I' → I' 31 0 0 12 = gi (nk t n (tokF t n e) true).1 → Q (.inl .null) (WR I' er) J B) : gC E 145 [.inr (31, 0, 0)] I J B (fun _ I J B => gC E 151 [.inr (31, 0, 0), .inl (.int (gi lo)), .inl (.int (gi hi))] I J B (fun v I J B => gvi v fun r => ((¬ I 31 0 0 15 = gi 0 → Q (.inl .null) I J B) ∧ (I 31 0 0 15 = gi 0 → P r I J B))) X) X := by
  refine m_go hb hT hw he hn fun I1 f1 hK1 => ?_
  show gC _ _ _ _ _ _ _ _
  have hw1 := (f1 31 0 0 15 (by omega)).trans hw
  refine m_ts hb (hT.fm f1) (tokF_ok hn) hK1 h3 h4 h5 h6 hw1 (fun z I2 f2 hK2 => And.intro (fun z2 => absurd ((f2 31 0 0 15 (by omega)).trans hw1) z2) (fun _ => k1 z I2 (f1.tr f2) hK2)) (fun er he hl z I2 f2 a => And.intro (fun _ => k0 er he hl z I2 (f1.tr f2) a) (fun z2 => ?_))
  rw [wr15] at z2
  exact absurd z2 (gi_n0 (by omega) (by omega))
theorem nar1 : vp_nar .boolean (gi 1) = gi 1 := by decide
theorem fillB_1 {p j : Nat} (h : j = p) : fillB tD p 1 j = true := if_pos (by omega)
theorem fillB_0 {p j : Nat} (h : ¬ j = p) : fillB tD p 1 j = tD j := if_neg (by omega)
theorem ner0 {sg : Bool} (h : ner t n k sg lo hi = 0) : (nk t n k sg).2.2.1 = 2 ∧ lo ≤ nv t n k sg ∧ nv t n k sg ≤ hi := by
  unfold ner at h
  by_cases y : (nk t n k sg).2.2.1 = 2
  · rw [if_pos y] at h
    by_cases y2 : lo ≤ nv t n k sg ∧ nv t n k sg ≤ hi
    · exact ⟨y, y2⟩
    · rw [if_neg y2] at h
      exact absurd h (by decide)
  · rw [if_neg y] at h
    exact absurd h (by decide)
theorem RB.put {p r : Nat} {v : Int} {f2 : Nat → Int} (h : RB t n f tD bb I) (hp : p < 27) (h2 : ∀ j, j < 408 → f2 j = if j = r then v else f j) : RB t n f2 (fillB tD p 1) bb (gUI (gUI I 37 0 0 p (gi 1)) 36 0 0 r (gi v)) := by
  obtain ⟨g1, g2, g3, g4, g5⟩ := h
  refine ⟨⟨(if_neg (by omega)).trans ((if_neg (by omega)).trans g1.1), fun q hq => (if_neg (by omega)).trans ((if_neg (by omega)).trans (g1.2 q hq))⟩, fun q hq => ?_, fun j hj => ?_, (if_neg (by omega)).trans ((if_neg (by omega)).trans g4), (if_neg (by omega)).trans ((if_neg (by omega)).trans g5)⟩
  · rw [gUI_at, h2 q hq]
    by_cases z : q = r
    · rw [if_pos ⟨rfl, rfl, rfl, z⟩, if_pos z]
    · rw [if_neg (fun y => z y.2.2.2), if_neg z, gUI_at, if_neg (by omega)]
      exact g2 q hq
  · rw [gUI_at, if_neg (by omega), gUI_at]
    by_cases z : j = p
    · rw [if_pos ⟨rfl, rfl, rfl, z⟩, fillB_1 z]; rfl
    · rw [if_neg (fun y => z y.2.2.2), fillB_0 z]
      exact g3 j hj
theorem Mt.put {p r : Nat} {x y : Int32} (h : Mt k I) : Mt k (gUI (gUI I 37 0 0 p x) 36 0 0 r y) := by
  obtain ⟨g1, g2, g3, g4⟩ := h
  exact ⟨(if_neg (by omega)).trans ((if_neg (by omega)).trans g1), (if_neg (by omega)).trans ((if_neg (by omega)).trans g2), (if_neg (by omega)).trans ((if_neg (by omega)).trans g3), fun z => (if_neg (by omega)).trans ((if_neg (by omega)).trans (g4 z))⟩
theorem PM.er {er pos : Nat} (h1 : 1 ≤ er) (h2 : er ≤ 4) (h3 : I 31 0 0 12 = gi pos) : PM t n (.inl (er, pos)) (WR I er) := ⟨h1, h2, wr15, wr16.trans h3⟩
/-- the line of one diagonal -/
theorem m_diag (hb : Tb t n) (hR : RB t n s.2.1 s.2.2.1 s.2.2.2 I) (hk : Tkk n s.1) (hK : Mt s.1 I) (hN : 1 ≤ s.2.1 0) (hN7 : s.2.1 0 ≤ 7) (k : ∀ I', FR2 I I' → PM t n (diagL t n s) I' → Q (.inl .null) I' J B) : gC E 152 [.inr (31, 0, 0)] I J B Q X := by
  obtain ⟨ks, f, tD, bb⟩ := s
  refine e_X8_diagonalLine (m_go hb hR.1 hR.2.2.2.2 hK.2.1 hk.2.1 fun I1 f1 hK1 => ?_)
  change Mt (nx t n ks) I1 at hK1
  have hR1 := hR.fm f1
  change RB t n f tD bb I1 at hR1
  change 1 ≤ f 0 at hN
  change f 0 ≤ 7 at hN7
  change Tkk n ks at hk
  show _ ∧ _
  rw [hR1.2.1 0 (by decide), gi_sub, gi_sub]
  unfold diagL nm at k
  refine ⟨gvp (by decide) (by decide) (by decide), gvp (by decide) (by decide) (by decide), m_sh hb hR1.1 (nx_ok hk) hK1 (by omega) (by omega) (by omega) (by omega) hR1.2.2.2.2 (fun z I2 f2 a1 a2 => ?_) (fun er he z I2 f2 a1 => ?_)⟩
  · change ner t n (nx t n ks) true (1 - f 0) (f 0 - 1) = 0 at z
    have hq := (ner0 z).2
    have hnk := nk_ok (t := t) (sg := true) (nx_ok (t := t) hk)
    rw [if_pos (show ner t n (nx t n (ks, f, tD, bb).1) true (1 - (ks, f, tD, bb).2.1 0) ((ks, f, tD, bb).2.1 0 - 1) = 0 from z)] at k
    change ∀ I', FR2 I I' → PM t n (rngV t n f tD bb (nk t n (nx t n ks) true) (nv t n (nx t n ks) true + 6).toNat 1) I' → Q (.inl .null) I' J B at k
    generalize nv t n (nx t n ks) true = q at hq k
    generalize nk t n (nx t n ks) true = k1 at a1 a2 hnk k
    have hR2 := hR1.fm f2
    unfold rngV at k
    have hp : gi q + gi 6 = gi (q + 6) := gi_add _ _
    have hp2 : gi 8 + gi q = gi (8 + q) := gi_add _ _
    have eT : I2 37 0 0 (q + 6).toNat = gi (if tD (q + 6).toNat = true then 1 else 0) := hR2.2.2.1 _ (by omega)
    show (_ → _) ∧ _
    rw [hp, hp2, gi_c (by omega) (by omega), gi_c (by omega) (by omega), eT]
    refine ⟨fun z => absurd hR2.2.2.2.2 z, fun _ => ⟨gvp (by omega) (by omega) (by decide), fun z3 => ?_, fun z3 => ?_⟩⟩
    · have hA : ¬ anB tD (q + 6).toNat 1 = true := fun y => by
        have y2 : tD (q + 6).toNat = true := by
          unfold anB anB at y
          rw [Bool.or_false] at y
          exact y
        rw [if_pos y2] at z3
        exact absurd z3 (by decide)
      rw [if_neg hA] at k
      unfold nm at k
      refine m_tl1 hb hR2.1 a2 hnk.2.1 (by decide) (by decide) (by decide) (by decide) hR2.2.2.2.2 (fun z4 I3 f3 hK3 => ⟨gvp (by omega) (by omega) (by decide), gvp (by omega) (by omega) (by decide), ?_⟩) (fun er he hl z4 I3 f3 a3 => ?_)
      · rw [if_pos (show ner t n (nx t n k1) true (-50) 50 = 0 from z4)] at k
        rw [nar1]
        refine k _ (((f1.tr (f2.tr f3)).r2.up (by omega)).up (by omega)) ⟨(hR2.fm f3).put (by omega) fun j hj => ?_, nx_ok (nk_ok (tokF_ok hnk.2.1)), hK3.put⟩
        show (if _ then _ else _) = _
        by_cases y : j = (8 + q).toNat
        · rw [if_pos (by omega), if_pos y]; rfl
        · rw [if_neg (by omega), if_neg y]
      · rw [if_neg (by change ner t n (nx t n k1) true (-50) 50 = er at z4; rw [z4]; exact he)] at k
        change ner t n (nx t n k1) true (-50) 50 = er at z4
        rw [z4] at k
        exact k _ ((f1.tr (f2.tr f3)).r2.tr WR.r2) (PM.er (by omega) (by omega) a3)
    · have hA : anB tD (q + 6).toNat 1 = true := by
        unfold anB anB
        rw [Bool.or_false]
        by_cases y : tD (q + 6).toNat = true
        · exact y
        · rw [if_neg y] at z3; exact absurd rfl z3
      rw [if_pos hA] at k
      refine e_X8_fails ⟨fun z => absurd hR2.2.2.2.2 z, fun _ => ?_⟩
      have e15 : ¬ (WR I2 3) 31 0 0 15 = gi 0 := by rw [wr15]; decide
      exact m_tl0 (by decide) (by decide) (by decide) (by decide) e15 (k _ ((f1.tr f2).r2.tr WR.r2) (PM.er (by decide) (by decide) a1))
  · change ner t n (nx t n ks) true (1 - f 0) (f 0 - 1) = er at z
    have hle : er ≤ 2 := by rw [← z]; exact ner_b
    rw [if_neg (by show ¬ ner t n (nx t n ks) true (1 - f 0) (f 0 - 1) = 0; rw [z]; exact he)] at k
    change ∀ I', FR2 I I' → PM t n (.inl (ner t n (nx t n ks) true (1 - f 0) (f 0 - 1), (nk t n (nx t n ks) true).1)) I' → Q (.inl .null) I' J B at k
    rw [z] at k
    have e15 : ¬ (WR I2 er) 31 0 0 15 = gi 0 := by rw [wr15]; exact gi_n0 (by omega) (by omega)
    refine And.intro (fun _ => m_tl0 (by decide) (by decide) (by decide) (by decide) e15 (k _ ((f1.tr f2).r2.tr WR.r2) (PM.er (by omega) (by omega) a1))) (fun z => absurd z e15)
end YX
