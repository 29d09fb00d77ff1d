/-! ===== the reference's lines ===== -/
abbrev PS : Type := Tok × (Nat → Int) × (Nat → Bool) × Nat
abbrev PR : Type := (Nat × Nat) ⊕ PS
def nm (t : Nat → Int) (n : Nat) (k : Tok) (sg : Bool) (lo hi : Int) (go : Tok → Int → PR) : PR := if ner t n k sg lo hi = 0 then go (nk t n k sg) (nv t n k sg) else .inl (ner t n k sg lo hi, (nk t n k sg).1)
def anB (tD : Nat → Bool) : Nat → Nat → Bool
  | _, 0 => false
  | p, c + 1 => tD p || anB tD (p + 1) c
def fillF (f : Nat → Int) (p c : Nat) (v : Int) : Nat → Int := fun j => if 2 + p ≤ j ∧ j < 2 + p + c then v else f j
def fillB (tD : Nat → Bool) (p c : Nat) : Nat → Bool := fun j => if p ≤ j ∧ j < p + c then true else tD j
def rngV (t : Nat → Int) (n : Nat) (f : Nat → Int) (tD : Nat → Bool) (b : Nat) (k : Tok) (p c : Nat) : PR := if anB tD p c = true then .inl (3, k.1) else nm t n (nx t n k) true (-50) 50 fun k2 v => .inr (nx t n k2, fillF f p c v, fillB tD p c, b)
def diagL (t : Nat → Int) (n : Nat) (s : PS) : PR := nm t n (nx t n s.1) true (1 - s.2.1 0) (s.2.1 0 - 1) fun k1 q => rngV t n s.2.1 s.2.2.1 s.2.2.2 k1 (q + 6).toNat 1
def bandL (t : Nat → Int) (n : Nat) (s : PS) : PR := if s.2.2.2 = 8 then .inl (4, s.1.1) else nm t n (nx t n s.1) true (1 - s.2.1 0) (s.2.1 0 - 1) fun k1 lo => nm t n (nx t n k1) true lo (s.2.1 0 - 1) fun k2 hi => rngV t n s.2.1 s.2.2.1 (s.2.2.2 + 1) k2 (lo + 6).toNat (hi + 1 - lo).toNat
def partL (t : Nat → Int) (n r l : Nat) (s : PS) : PR := nm t n (nx t n s.1) false 0 (s.2.1 0 - 1) fun k1 i => if s.2.2.1 (l + i.toNat) = true then .inl (3, k1.1) else nm t n (nx t n k1) true (-999) 999 fun k2 v => .inr (nx t n k2, upF s.2.1 (r + i.toNat) v, fillB s.2.2.1 (l + i.toNat) 1, s.2.2.2)
def RB (t : Nat → Int) (n : Nat) (f : Nat → Int) (tD : Nat → Bool) (b : Nat) (I : gI) : Prop := Tm t n I ∧ (∀ q, q < 408 → I 36 0 0 q = gi (f q)) ∧ (∀ j, j < 27 → I 37 0 0 j = gi (if tD j = true then 1 else 0)) ∧ I 31 0 0 19 = gi b ∧ I 31 0 0 15 = gi 0
def FR2 (I I' : gI) : Prop := ∀ a b c d, ¬ (a = 31 ∧ (11 ≤ d ∧ d ≤ 16 ∨ d = 19)) → a ≠ 36 → a ≠ 37 → I' a b c d = I a b c d
def PM (t : Nat → Int) (n : Nat) (R : PR) (I : gI) : Prop := match R with
  | .inl (er, pos) => 1 ≤ er ∧ er ≤ 4 ∧ I 31 0 0 15 = gi er ∧ I 31 0 0 16 = gi pos
  | .inr s => RB t n s.2.1 s.2.2.1 s.2.2.2 I ∧ Tkk n s.1 ∧ Mt s.1 I
section YX
variable {E : gEn} {Q : gQt} {X : gXt} {I : gI} {J : gJ} {B : gB} {c w n e p st m bb : Nat} {t : Nat → Int} {lo hi x v : Int} {k : Tok} {f : Nat → Int} {tD : Nat → Bool} {s : PS}
theorem RB.fm {I' : gI} (h : RB t n f tD bb I) (g : FM I I') : RB t n f tD bb I' := ⟨h.1.fm g, fun q hq => (g 36 0 0 q (by omega)).trans (h.2.1 q hq), fun j hj => (g 37 0 0 j (by omega)).trans (h.2.2.1 j hj), (g 31 0 0 19 (by omega)).trans h.2.2.2.1, (g 31 0 0 15 (by omega)).trans h.2.2.2.2⟩
theorem FR2.rf : FR2 I I := fun _ _ _ _ _ _ _ => rfl
theorem FR2.tr {I' I2 : gI} (h : FR2 I I') (h2 : FR2 I' I2) : FR2 I I2 := fun a b c d h3 h4 h5 => (h2 a b c d h3 h4 h5).trans (h a b c d h3 h4 h5)
theorem FM.r2 {I' : gI} (h : FM I I') : FR2 I I' := fun a b c d z _ _ => h a b c d (by omega)
theorem WR.r2 {er : Nat} : FR2 I (WR I er) := fun a b c d z _ _ => by
  unfold WR
  rw [gUI_at, if_neg (by omega), gUI_at, if_neg (by omega)]
theorem FR2.up31 {I' : gI} {d : Nat} {x : Int32} (h : FR2 I I') (hd : 11 ≤ d ∧ d ≤ 16 ∨ d = 19) : FR2 I (gUI I' 31 0 0 d x) := fun a b c d2 z h4 h5 => by
  rw [gUI_at, if_neg (fun q => z ⟨q.1, by omega⟩)]
  exact h a b c d2 z h4 h5
theorem FR2.up {I' : gI} {a0 d : Nat} {x : Int32} (h : FR2 I I') (hd : a0 = 36 ∨ a0 = 37) : FR2 I (gUI I' a0 0 0 d x) := fun a b c d2 z h4 h5 => by
  rw [gUI_at, if_neg (by omega)]
  exact h a b c d2 z h4 h5
theorem wr15 {er : Nat} : (WR I er) 31 0 0 15 = gi er := (gu_o (by decide)).trans gu_s
theorem wr16 {er : Nat} : (WR I er) 31 0 0 16 = I 31 0 0 12 := gu_s
theorem gi_n0 {er : Nat} (h1 : 1 ≤ er) (h2 : er ≤ 4) : ¬ gi (er : Int) = gi 0 := fun z => by
  rw [gi_eq (by omega) (by omega) (by omega) (by omega)] at z
  omega
theorem ner_b {sg : Bool} : ner t n k sg lo hi ≤ 2 := by
  unfold ner
  split
  · split <;> decide
  · decide
theorem nk_ok {sg : Bool} (hk : Tkk n k) : Tkk n (nk t n k sg) := by
  unfold nk
  split
  · exact nx_ok hk
  · exact hk
theorem nar1 : vp_nar .boolean (gi 1) = gi 1 := by decide
theorem fillB_1 {p j : Nat} (h : j = p) : fillB tD p 1 j = true := if_pos (by omega)
theorem fillB_0 {p j : Nat} (h : ¬ j = p) : fillB tD p 1 j = tD j := if_neg (by omega)
theorem ner0 {sg : Bool} (h : ner t n k sg lo hi = 0) : (nk t n k sg).2.2.1 = 2 ∧ lo ≤ nv t n k sg ∧ nv t n k sg ≤ hi := by
  unfold ner at h
  by_cases y : (nk t n k sg).2.2.1 = 2
  · rw [if_pos y] at h
    by_cases y2 : lo ≤ nv t n k sg ∧ nv t n k sg ≤ hi
    · exact ⟨y, y2⟩
    · rw [if_neg y2] at h
      exact absurd h (by decide)
  · rw [if_neg y] at h
    exact absurd h (by decide)
theorem RB.put {p r : Nat} {v : Int} {f2 : Nat → Int} (h : RB t n f tD bb I) (hp : p < 27) (h2 : ∀ j, j < 408 → f2 j = if j = r then v else f j) : RB t n f2 (fillB tD p 1) bb (gUI (gUI I 37 0 0 p (gi 1)) 36 0 0 r (gi v)) := by
  obtain ⟨g1, g2, g3, g4, g5⟩ := h
  refine ⟨⟨(if_neg (by omega)).trans ((if_neg (by omega)).trans g1.1), fun q hq => (if_neg (by omega)).trans ((if_neg (by omega)).trans (g1.2 q hq))⟩, fun q hq => ?_, fun j hj => ?_, (if_neg (by omega)).trans ((if_neg (by omega)).trans g4), (if_neg (by omega)).trans ((if_neg (by omega)).trans g5)⟩
  · rw [gUI_at, h2 q hq]
    by_cases z : q = r
    · rw [if_pos ⟨rfl, rfl, rfl, z⟩, if_pos z]
    · rw [if_neg (fun y => z y.2.2.2), if_neg z, gUI_at, if_neg (by omega)]
      exact g2 q hq
  · rw [gUI_at, if_neg (by omega), gUI_at]
    by_cases z : j = p
    · rw [if_pos ⟨rfl, rfl, rfl, z⟩, fillB_1 z]; rfl
    · rw [if_neg (fun y => z y.2.2.2), fillB_0 z]
      exact g3 j hj
theorem Mt.put {p r : Nat} {x y : Int32} (h : Mt k I) : Mt k (gUI (gUI I 37 0 0 p x) 36 0 0 r y) := by
  obtain ⟨g1, g2, g3, g4⟩ := h
  exact ⟨(if_neg (by omega)).trans ((if_neg (by omega)).trans g1), (if_neg (by omega)).trans ((if_neg (by omega)).trans g2), (if_neg (by omega)).trans ((if_neg (by omega)).trans g3), fun z => (if_neg (by omega)).trans ((if_neg (by omega)).trans (g4 z))⟩
theorem PM.er {er pos : Nat} (h1 : 1 ≤ er) (h2 : er ≤ 4) (h3 : I 31 0 0 12 = gi pos) : PM t n (.inl (er, pos)) (WR I er) := ⟨h1, h2, wr15, wr16.trans h3⟩
end YX
