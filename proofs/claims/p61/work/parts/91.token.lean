/-! ===== the tokens of a text, on both sides ===== -/
def rnF (t : Nat → Int) (n : Nat) (lo hi : Int) : Nat → Nat → Nat
  | 0, p => p
  | k + 1, p => if p < n ∧ lo ≤ t p ∧ t p ≤ hi then rnF t n lo hi k (p + 1) else p
def rn (t : Nat → Int) (n : Nat) (lo hi : Int) (p : Nat) : Nat := rnF t n lo hi (n - p) p
def decF (t : Nat → Int) (st : Nat) : Nat → Int
  | 0 => 0
  | k + 1 => 10 * decF t st k + t (st + k) - 48
abbrev Tok : Type := Nat × Nat × Nat × Int
def tokS (t : Nat → Int) (n st : Nat) : Tok :=
  if st < rn t n 97 122 st then (st, rn t n 97 122 st, if rn t n 97 122 st ≤ st + 8 then 1 else 5, 0)
  else if st < rn t n 48 57 st then (st, rn t n 48 57 st, if rn t n 48 57 st ≤ st + 4 then 2 else 5, decF t st (min 4 (rn t n 48 57 st - st)))
  else if st < n then (st, st + 1, if t st = 45 then 3 else if t st = 59 then 4 else 5, 0)
  else (st, st, 0, 0)
def tokF (t : Nat → Int) (n e : Nat) : Tok := tokS t n (rn t n 32 32 e)
def Tb (t : Nat → Int) (n : Nat) : Prop := n ≤ 700 ∧ ∀ k, k < n → 0 ≤ t k ∧ t k < 256
def Ti (t : Nat → Int) (n : Nat) (I : gI) : Prop := I 4 0 0 5 = gi n ∧ ∀ k, k < n → I 5 0 0 k &&& gi 255 = gi (t k)
def Tm (t : Nat → Int) (n : Nat) (I : gI) : Prop := I 31 0 0 10 = gi n ∧ ∀ k, k < n → I 35 0 0 k = gi (t k)
def Tk (k : Tok) (I : gI) : Prop := I 4 0 0 4 = gi k.1 ∧ I 4 0 0 7 = gi k.2.1 ∧ I 4 0 0 6 = gi k.2.2.1 ∧ (k.2.2.1 = 2 → I 4 0 0 8 = gi k.2.2.2)
def km (k : Nat) : Nat := if k = 3 then 4 else if k = 4 then 3 else k
def Mt (k : Tok) (I : gI) : Prop := I 31 0 0 12 = gi k.1 ∧ I 31 0 0 11 = gi k.2.1 ∧ I 31 0 0 13 = gi (km k.2.2.1) ∧ (k.2.2.1 = 2 → I 31 0 0 14 = gi k.2.2.2)
def F4 (I I' : gI) : Prop := ∀ a b c d, ¬ (a = 4 ∧ (d = 4 ∨ d = 6 ∨ d = 7 ∨ d = 8)) → I' a b c d = I a b c d
def FM (I I' : gI) : Prop := ∀ a b c d, ¬ (a = 31 ∧ (d = 11 ∨ d = 12 ∨ d = 13 ∨ d = 14)) → I' a b c d = I a b c d
section YT
variable {E : gEn} {Q : gQt} {X : gXt} {I : gI} {J : gJ} {B : gB} {c w n e p st : Nat} {t : Nat → Int} {lo hi : Int} {k : Tok}
theorem sgn_ne {a : Int} : ¬ (if a = 45 then 3 else if a = 59 then 4 else 5 : Nat) = 2 := by
  split
  · decide
  · split <;> decide
theorem rn_stop (h : ¬ (p < n ∧ lo ≤ t p ∧ t p ≤ hi)) : rn t n lo hi p = p := by
  unfold rn
  cases hk : n - p with
  | zero => rfl
  | succ k =>
    unfold rnF
    rw [if_neg h]
theorem rn_go (h : p < n ∧ lo ≤ t p ∧ t p ≤ hi) : rn t n lo hi p = rn t n lo hi (p + 1) := by
  unfold rn
  rw [show n - p = (n - (p + 1)) + 1 by omega]
  show (if p < n ∧ lo ≤ t p ∧ t p ≤ hi then rnF t n lo hi (n - (p + 1)) (p + 1) else p) = _
  rw [if_pos h]
theorem rn_ok : ∀ (k p : Nat), n - p = k → p ≤ n → p ≤ rn t n lo hi p ∧ rn t n lo hi p ≤ n ∧ (∀ q, p ≤ q → q < rn t n lo hi p → lo ≤ t q ∧ t q ≤ hi) := by
  intro k
  induction k with
  | zero =>
    intro p h1 h2
    rw [rn_stop (by omega)]
    exact ⟨Nat.le_refl _, h2, fun q h3 h4 => by omega⟩
  | succ k ih =>
    intro p h1 h2
    by_cases h : p < n ∧ lo ≤ t p ∧ t p ≤ hi
    · rw [rn_go h]
      obtain ⟨g1, g2, g3⟩ := ih (p + 1) (by omega) (by omega)
      refine ⟨by omega, g2, fun q h3 h4 => ?_⟩
      by_cases hq : q = p
      · rw [hq]; exact h.2
      · exact g3 q (by omega) h4
    · rw [rn_stop h]
      exact ⟨Nat.le_refl _, h2, fun q h3 h4 => by omega⟩
theorem rn_b (h : p ≤ n) : p ≤ rn t n lo hi p ∧ rn t n lo hi p ≤ n := ⟨(rn_ok _ p rfl h).1, (rn_ok _ p rfl h).2.1⟩
theorem rn_lt (h2 : p ≤ n) : p < rn t n lo hi p ↔ (p < n ∧ lo ≤ t p ∧ t p ≤ hi) := by
  constructor
  · intro h
    by_cases g : p < n ∧ lo ≤ t p ∧ t p ≤ hi
    · exact g
    · rw [rn_stop g] at h; omega
  · intro h
    rw [rn_go h]
    have := (rn_b (t := t) (lo := lo) (hi := hi) (show p + 1 ≤ n by omega)).1
    omega
theorem gb (h : Tb t n) (hp : p < n) : -2147483648 ≤ t p ∧ t p < 2147483648 := by
  have := h.2 p hp
  omega
theorem z_byteAt (hb : Tb t n) (hT : Ti t n I) (hp : p < n) (k : Q (.inl (.int (gi (t p)))) I J B) : gC E 34 [.inr (4, 0, 0), .inl (.int (gi p))] I J B Q X := by
  have h0 := hb.1
  refine e_X3_byteAt ⟨fun z => ?_, fun _ => ⟨fun z => ?_, fun _ => ⟨gvp (by omega) (by omega) (by decide), ?_⟩⟩⟩
  · rw [gi_lt (by omega) (by omega) (by omega) (by omega)] at z; omega
  · rw [gi_le (by omega) (by omega) (by omega) (by omega)] at z; omega
  · rw [gi_c (by omega) (by omega), gtn, hT.2 p hp]
    exact k
theorem z_run (hb : Tb t n) (hT : Ti t n I) (h1 : 0 ≤ lo) (h2 : lo < 256) (h3 : 0 ≤ hi) (h4 : hi < 256) : ∀ (j p : Nat), n - p = j → p ≤ n → Q (.inl (.int (gi (rn t n lo hi p)))) I J B → gG E 32 3 [(0, .inr (4, 0, 0)), (2, .inl (.int (gi lo))), (3, .inl (.int (gi hi))), (4, .inl (.int (gi p)))] [] I J B c w Q X := by
  have h0 := hb.1
  intro j
  induction j with
  | zero =>
    intro p g1 g2 k
    refine s_X3_runEnd_3 ⟨fun z => ?_, fun z => absurd ?_ z⟩
    · rw [rn_stop (by omega)] at k; exact k
    · rw [hT.1, gi_le (by omega) (by omega) (by omega) (by omega)]; omega
  | succ j ih =>
    intro p g1 g2 k
    have gp := gb hb (show p < n by omega)
    refine s_X3_runEnd_3 ⟨fun z => ?_, fun z => ?_⟩
    · rw [hT.1, gi_le (by omega) (by omega) (by omega) (by omega)] at z; omega
    · refine z_byteAt hb hT (by omega) (And.intro (fun z2 => ?_) (fun z2 => z_byteAt hb hT (by omega) (And.intro (fun z3 => ?_) (fun z3 => ?_))))
      · rw [gi_lt gp.1 gp.2 (by omega) (by omega)] at z2
        rw [rn_stop (by omega)] at k; exact k
      · rw [gi_lt (by omega) (by omega) gp.1 gp.2] at z3
        rw [rn_stop (by omega)] at k; exact k
      · rw [gi_lt gp.1 gp.2 (by omega) (by omega)] at z2
        rw [gi_lt (by omega) (by omega) gp.1 gp.2] at z3
        rw [rn_go ⟨by omega, by omega, by omega⟩] at k
        rw [show gi (p : Int) + gi 1 = gi ((p + 1 : Nat) : Int) from gi_add _ _]
        exact ih (p + 1) (by omega) (by omega) k
theorem z_runE (hb : Tb t n) (hT : Ti t n I) (h1 : 0 ≤ lo) (h2 : lo < 256) (h3 : 0 ≤ hi) (h4 : hi < 256) (hp : p ≤ n) (k : Q (.inl (.int (gi (rn t n lo hi p)))) I J B) : gC E 32 [.inr (4, 0, 0), .inl (.int (gi p)), .inl (.int (gi lo)), .inl (.int (gi hi))] I J B Q X :=
  e_X3_runEnd (z_run hb hT h1 h2 h3 h4 _ p rfl hp k)
theorem z_decL (hb : Tb t n) (hT : Ti t n I) {en : Nat} (h1 : I 4 0 0 4 = gi st) (h2 : I 4 0 0 7 = gi en) (h3 : st ≤ en) (h4 : en ≤ n) : ∀ (j i : Nat), min 4 (en - st) - i = j → i ≤ min 4 (en - st) → Q (.inl (.int (gi (decF t st (min 4 (en - st)))))) I J B → gG E 33 7 [(0, .inr (4, 0, 0)), (1, .inl (.int (gi (decF t st i)))), (2, .inl (.int (gi ((st + i : Nat) : Int))))] [] I J B c w Q X := by
  have h0 := hb.1
  intro j
  induction j with
  | zero =>
    intro i g1 g2 k
    have hi : i = min 4 (en - st) := by omega
    refine s_X3_readDecimals_7 ⟨fun z => ?_, fun z => ⟨fun z2 => ?_, fun z2 => absurd ?_ z2⟩⟩
    · rw [hi]; exact k
    · rw [hi]; exact k
    · rw [h2, gi_le (by omega) (by omega) (by omega) (by omega)] at z
      rw [h1, gi_sub, gi_le (by omega) (by omega) (by omega) (by omega)]
      omega
  | succ j ih =>
    intro i g1 g2 k
    refine s_X3_readDecimals_7 ⟨fun z => ?_, fun z => ⟨fun z2 => ?_, fun z2 => ?_⟩⟩
    · rw [h2, gi_le (by omega) (by omega) (by omega) (by omega)] at z; omega
    · rw [h1, gi_sub, gi_le (by omega) (by omega) (by omega) (by omega)] at z2; omega
    · refine z_byteAt hb hT (by omega) ?_
      show gG _ _ _ _ _ _ _ _ _ _ _ _
      rw [gi_mul, gi_add, gi_sub, show gi ((st + i : Nat) : Int) + gi 1 = gi ((st + (i + 1) : Nat) : Int) from gi_add _ _]
      exact ih (i + 1) (by omega) (by omega) k
theorem gu_o {I : gI} {a b c d d2 : Nat} {x : Int32} (h : d ≠ d2) : (gUI I a b c d2 x) a b c d = I a b c d := if_neg (fun z => h z.2.2.2)
theorem gu_s {I : gI} {a b c d : Nat} {x : Int32} : (gUI I a b c d x) a b c d = x := if_pos ⟨rfl, rfl, rfl, rfl⟩
theorem F4.rf : F4 I I := fun _ _ _ _ _ => rfl
theorem F4.up {I' : gI} {d : Nat} {x : Int32} (h : F4 I I') (hd : d = 4 ∨ d = 6 ∨ d = 7 ∨ d = 8) : F4 I (gUI I' 4 0 0 d x) := fun a b c d2 h1 => by
  rw [gUI_at, if_neg (fun z => h1 ⟨z.1, by omega⟩)]
  exact h a b c d2 h1
theorem F4.tr {I' I2 : gI} (h : F4 I I') (h2 : F4 I' I2) : F4 I I2 := fun a b c d h3 => (h2 a b c d h3).trans (h a b c d h3)
theorem Ti.f4 {I' : gI} (h : Ti t n I) (f : F4 I I') : Ti t n I' := ⟨(f 4 0 0 5 (by omega)).trans h.1, fun k hk => (congrArg (· &&& gi 255) (f 5 0 0 k (by omega))).trans (h.2 k hk)⟩
theorem z_adv (hb : Tb t n) (hT : Ti t n I) (he : I 4 0 0 7 = gi e) (hn : e ≤ n) (k : ∀ I', F4 I I' → Tk (tokF t n e) I' → Q (.inl .null) I' J B) : gC E 31 [.inr (4, 0, 0)] I J B Q X := by
  have h0 := hb.1
  refine e_X3_advance ?_
  rw [he]
  obtain ⟨a1, a2⟩ := rn_b (t := t) (lo := 32) (hi := 32) hn
  unfold tokF at k
  refine z_runE hb hT (by decide) (by decide) (by decide) (by decide) hn ?_
  generalize rn t n 32 32 e = st at a1 a2 k
  show gC _ _ _ _ _ _ _ _
  obtain ⟨b1, b2⟩ := rn_b (t := t) (lo := 97) (hi := 122) a2
  obtain ⟨d1, d2⟩ := rn_b (t := t) (lo := 48) (hi := 57) a2
  have f1 : F4 I (gUI I 4 0 0 4 (gi st)) := F4.rf.up (by omega)
  refine z_runE hb (hT.f4 f1) (by decide) (by decide) (by decide) (by decide) a2 ?_
  show gC _ _ _ _ _ _ _ _
  rw [gu_s]
  refine z_runE hb (hT.f4 f1) (by decide) (by decide) (by decide) (by decide) a2 ?_
  show (_ → _) ∧ _
  rw [gu_s, show (gUI I 4 0 0 4 (gi st)) 4 0 0 5 = gi n from (hT.f4 f1).1]
  unfold tokS at k
  refine ⟨fun z => ?_, fun z => ?_⟩
  · rw [gi_le (by omega) (by omega) (by omega) (by omega)] at z
    rw [if_neg (by omega)] at k
    refine ⟨fun z2 => ?_, fun z2 => ?_⟩
    · rw [gi_le (by omega) (by omega) (by omega) (by omega)] at z2
      rw [if_neg (by omega)] at k
      refine ⟨fun z3 => ?_, fun z3 => ?_⟩
      · rw [gi_le (by omega) (by omega) (by omega) (by omega)] at z3
        rw [if_neg (by omega)] at k
        refine k _ ((f1.up (by omega)).up (by omega)) ⟨?_, ?_, ?_, fun z => absurd (show (0 : Nat) = 2 from z) (by decide)⟩
        · rw [gu_o (by decide), gu_o (by decide), gu_s]
        · rw [gu_o (by decide), gu_s]
        · rw [gu_s]; rfl
      · rw [gi_le (by omega) (by omega) (by omega) (by omega)] at z3
        rw [if_pos (by omega)] at k
        have gp := gb hb (show st < n by omega)
        refine z_byteAt hb (hT.f4 f1) (by omega) ?_
        have key : ∀ x : Nat, (if t st = 45 then 3 else if t st = 59 then 4 else 5) = x → Q (.inl .null) (gUI (gUI (gUI I 4 0 0 4 (gi st)) 4 0 0 7 (gi st + gi 1)) 4 0 0 6 (gi x)) J B := fun x hx => by
          rw [hx] at k
          have hx2 : x ≠ 2 := fun q => sgn_ne (hx.trans q)
          refine k _ ((f1.up (by omega)).up (by omega)) ⟨?_, ?_, ?_, fun z => absurd z hx2⟩
          · rw [gu_o (by decide), gu_o (by decide), gu_s]
          · rw [gu_o (by decide), gu_s, gi_add]; rfl
          · rw [gu_s]
        rw [gu_s]
        refine And.intro (fun z4 => And.intro (fun z5 => key 5 ?_) (fun z5 => key 4 ?_)) (fun z4 => key 3 ?_)
        · rw [if_neg (fun h => z4 (by rw [h])), if_neg (fun h => z5 (by rw [h]))]
        · rw [gi_eq gp.1 gp.2 (by omega) (by omega)] at z5
          rw [if_neg (fun h => z4 (by rw [h])), if_pos z5]
        · rw [gi_eq gp.1 gp.2 (by omega) (by omega)] at z4
          rw [if_pos z4]
    · rw [gi_le (by omega) (by omega) (by omega) (by omega)] at z2
      rw [if_pos (by omega)] at k
      have key : ∀ x : Nat, (if rn t n 48 57 st ≤ st + 4 then 2 else 5) = x → gC E 33 [.inr (4, 0, 0)] (gUI (gUI (gUI I 4 0 0 4 (gi st)) 4 0 0 7 (gi (rn t n 48 57 st))) 4 0 0 6 (gi x)) J B (fun v I2 J2 B2 => gvi v fun r => Q (.inl .null) (gUI I2 4 0 0 8 r) J2 B2) X := fun x hx => by
        rw [hx] at k
        have e4 : (gUI (gUI (gUI I 4 0 0 4 (gi st)) 4 0 0 7 (gi (rn t n 48 57 st))) 4 0 0 6 (gi x)) 4 0 0 4 = gi st := by rw [gu_o (by decide), gu_o (by decide), gu_s]
        have e7 : (gUI (gUI (gUI I 4 0 0 4 (gi st)) 4 0 0 7 (gi (rn t n 48 57 st))) 4 0 0 6 (gi x)) 4 0 0 7 = gi (rn t n 48 57 st) := by rw [gu_o (by decide), gu_s]
        refine e_X3_readDecimals ?_
        rw [e4]
        refine z_decL hb (hT.f4 ((f1.up (by omega)).up (by omega))) e4 e7 d1 d2 _ 0 rfl (by omega) ?_
        refine k _ (((f1.up (by omega)).up (by omega)).up (by omega)) ⟨?_, ?_, ?_, fun _ => gu_s⟩
        · rw [gu_o (by decide), e4]
        · rw [gu_o (by decide), e7]
        · rw [gu_o (by decide), gu_s]
      refine ⟨fun z3 => ?_, fun z3 => ?_⟩
      · rw [gi_sub, gi_le (by omega) (by omega) (by omega) (by omega)] at z3
        exact key 2 (if_pos (by omega))
      · rw [gi_sub, gi_le (by omega) (by omega) (by omega) (by omega)] at z3
        exact key 5 (if_neg (by omega))
  · rw [gi_le (by omega) (by omega) (by omega) (by omega)] at z
    rw [if_pos (by omega)] at k
    have key : ∀ x : Nat, x ≠ 2 → (if rn t n 97 122 st ≤ st + 8 then 1 else 5) = x → Q (.inl .null) (gUI (gUI (gUI I 4 0 0 4 (gi st)) 4 0 0 7 (gi (rn t n 97 122 st))) 4 0 0 6 (gi x)) J B := fun x hx2 hx => by
      rw [hx] at k
      refine k _ ((f1.up (by omega)).up (by omega)) ⟨?_, ?_, ?_, fun z => absurd z hx2⟩
      · rw [gu_o (by decide), gu_o (by decide), gu_s]
      · rw [gu_o (by decide), gu_s]
      · rw [gu_s]
    refine ⟨fun z3 => ?_, fun z3 => ?_⟩
    · rw [gi_sub, gi_le (by omega) (by omega) (by omega) (by omega)] at z3
      exact key 1 (by decide) (if_pos (by omega))
    · rw [gi_sub, gi_le (by omega) (by omega) (by omega) (by omega)] at z3
      exact key 5 (by decide) (if_neg (by omega))
end YT
