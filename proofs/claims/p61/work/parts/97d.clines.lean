/-! ===== the class's lines ===== -/
def Bt (x : Int32) (i : Nat) : Bool := x.toBitVec.getLsbD i
def BD (x : Int32) (tD : Nat → Bool) : Prop := ∀ i, i < 13 → Bt x i = tD i
def BR (x : Int32) (tD : Nat → Bool) : Prop := ∀ i, i < 14 → Bt x i = tD (13 + i)
def RMk (x : Int32) (p c : Nat) : Prop := ∀ i, i < 32 → Bt x i = (decide (p ≤ i) && decide (i < p + c))
def CRw (f : Nat → Int) (I : gI) : Prop := I 6 2 0 0 = gi (f 0) ∧ I 6 2 0 1 = gi (f 1) ∧ (∀ k, k < 13 → I 7 2 0 k = gi (f (2 + k))) ∧ (∀ i, i < 7 → I 8 2 0 i = gi (f (15 + i))) ∧ (∀ i, i < 7 → I 9 2 0 i = gi (f (22 + i))) ∧ I 6 2 0 9 = gi (f 317)
def CB (t : Nat → Int) (n : Nat) (f : Nat → Int) (tD : Nat → Bool) (b : Nat) (I : gI) : Prop := Ti t n I ∧ CRw f I ∧ BD (I 4 0 0 12) tD ∧ BR (I 4 0 0 13) tD ∧ I 4 0 0 11 = gi b ∧ I 4 0 0 3 = gi 0
def FC (I I' : gI) : Prop := ∀ a b c d, ¬ (a = 4 ∧ 3 ≤ d ∧ d ≤ 13) → ¬ (6 ≤ a ∧ a ≤ 12 ∧ b = 2) → I' a b c d = I a b c d
section YC2
variable {E : gEn} {Q : gQt} {X : gXt} {I : gI} {J : gJ} {B : gB} {c w n e p st m bb : Nat} {t : Nat → Int} {lo hi v : Int} {k : Tok} {f : Nat → Int} {tD : Nat → Bool} {s : PS} {x y : Int32}
theorem Bt_or {i : Nat} : Bt (x ||| y) i = (Bt x i || Bt y i) := by
  unfold Bt
  rw [Int32.toBitVec_or, BitVec.getLsbD_or]
theorem Bt_and {i : Nat} : Bt (x &&& y) i = (Bt x i && Bt y i) := by
  unfold Bt
  rw [Int32.toBitVec_and, BitVec.getLsbD_and]
theorem Bt_0 {i : Nat} : Bt (gi 0) i = false := by
  unfold Bt
  rw [show (gi 0).toBitVec = 0#32 from rfl, BitVec.getLsbD_zero]
theorem Bt_ext (h : ∀ i, i < 32 → Bt x i = Bt y i) : x = y := by
  apply Int32.toBitVec_inj.mp
  exact BitVec.eq_of_getLsbD_eq fun i hi => h i hi
theorem Bt_sh1 : ∀ j, j < 32 → ∀ i, i < 32 → Bt (gi 1 <<< (gi ((j : Nat) : Int) &&& 31)) i = (decide (j ≤ i) && decide (i < j + 1)) := by decide +kernel
theorem Bt_sh7 : ∀ j, j < 7 → ∀ i, i < 32 → Bt (gi 128 <<< (gi ((j : Nat) : Int) &&& 31)) i = (decide (7 + j ≤ i) && decide (i < 7 + j + 1)) := by decide +kernel
theorem and0 : (x &&& y = gi 0) ↔ ∀ i, i < 32 → (Bt x i && Bt y i) = false := by
  constructor
  · intro h i hi
    rw [← Bt_and, h, Bt_0]
  · intro h
    refine Bt_ext fun i hi => ?_
    rw [Bt_and, Bt_0]
    exact h i hi
theorem RMk.z : RMk (gi 0) p 0 := fun i hi => by
  rw [Bt_0]
  by_cases h : p ≤ i
  · rw [decide_eq_false (show ¬ i < p + 0 by omega), Bool.and_false]
  · rw [decide_eq_false h, Bool.false_and]
theorem RMk.nxt (h : RMk x p m) (hp : p + m < 32) : RMk (x ||| (gi 1 <<< (gi ((p + m : Nat) : Int) &&& 31))) p (m + 1) := fun i hi => by
  rw [Bt_or, h i hi, Bt_sh1 _ hp i hi]
  by_cases h1 : p ≤ i
  · by_cases h2 : i < p + m
    · rw [decide_eq_true h1, decide_eq_true h2, decide_eq_true (show i < p + (m + 1) by omega)]; rfl
    · by_cases h3 : i < p + (m + 1)
      · rw [decide_eq_false h2, decide_eq_true h3, decide_eq_true (show p + m ≤ i by omega), decide_eq_true (show i < p + m + 1 by omega), decide_eq_true h1]; rfl
      · rw [decide_eq_false h2, decide_eq_false h3, decide_eq_false (show ¬ i < p + m + 1 by omega)]; simp
  · rw [decide_eq_false h1, decide_eq_false (show ¬ p + m ≤ i by omega)]
    simp
theorem anB_iff : ∀ (c p : Nat), anB tD p c = true ↔ ∃ i, p ≤ i ∧ i < p + c ∧ tD i = true := by
  intro c
  induction c with
  | zero =>
    intro p
    refine ⟨fun h => (by cases h), fun ⟨i, h1, h2, _⟩ => (by omega)⟩
  | succ c ih =>
    intro p
    show (tD p || anB tD (p + 1) c) = true ↔ _
    rw [Bool.or_eq_true, ih]
    refine ⟨fun h => ?_, fun ⟨i, h1, h2, h3⟩ => ?_⟩
    · rcases h with h | ⟨i, h1, h2, h3⟩
      · exact ⟨p, Nat.le_refl _, by omega, h⟩
      · exact ⟨i, by omega, by omega, h3⟩
    · by_cases z : i = p
      · left; rw [← z]; exact h3
      · right; exact ⟨i, by omega, by omega, h3⟩
theorem BD.any {mk : Int32} (h : BD x tD) (hm : RMk mk p m) (hp : p + m ≤ 13) : (x &&& mk = gi 0) = (anB tD p m = false) := by
  refine propext ⟨fun z => ?_, fun z => and0.mpr fun i hi => ?_⟩
  · by_cases y : anB tD p m = true
    · obtain ⟨i, h1, h2, h3⟩ := (anB_iff m p).mp y
      have q := and0.mp z i (by omega)
      rw [h i (by omega), hm i (by omega), h3, decide_eq_true h1, decide_eq_true h2] at q
      exact absurd q (by decide)
    · exact Bool.eq_false_iff.mpr y
  · rw [hm i hi]
    by_cases h1 : p ≤ i ∧ i < p + m
    · rw [h i (by omega)]
      by_cases y : tD i = true
      · have := (anB_iff m p).mpr ⟨i, h1.1, h1.2, y⟩
        rw [z] at this
        exact absurd this (by decide)
      · rw [Bool.eq_false_iff.mpr y, Bool.false_and]
    · by_cases h2 : p ≤ i
      · rw [decide_eq_false (show ¬ i < p + m by omega), Bool.and_false, Bool.and_false]
      · rw [decide_eq_false h2, Bool.false_and, Bool.and_false]
theorem BD.or {mk : Int32} (h : BD x tD) (hm : RMk mk p m) : BD (x ||| mk) (fillB tD p m) := fun i hi => by
  rw [Bt_or, h i hi, hm i (by omega)]
  unfold fillB
  by_cases h1 : p ≤ i ∧ i < p + m
  · rw [if_pos h1, decide_eq_true h1.1, decide_eq_true h1.2]
    simp
  · rw [if_neg h1]
    by_cases h2 : p ≤ i
    · rw [decide_eq_false (show ¬ i < p + m by omega), Bool.and_false, Bool.or_false]
    · rw [decide_eq_false h2, Bool.false_and, Bool.or_false]
theorem BR.fill (h : BR x tD) (hp : p + m ≤ 13) : BR x (fillB tD p m) := fun i hi => (h i hi).trans (if_neg (by omega)).symm
theorem FC.rf : FC I I := fun _ _ _ _ _ _ => rfl
theorem FC.tr {I' I2 : gI} (h : FC I I') (h2 : FC I' I2) : FC I I2 := fun a b c d h3 h4 => (h2 a b c d h3 h4).trans (h a b c d h3 h4)
theorem F4.fc {I' : gI} (h : F4 I I') : FC I I' := fun a b c d h3 _ => h a b c d (by omega)
theorem F43.fc {I' : gI} (h : F43 I I') : FC I I' := fun a b c d h3 _ => h a b c d (by omega)
theorem FC.up4 {I' : gI} {d : Nat} {x : Int32} (h : FC I I') (hd : 3 ≤ d ∧ d ≤ 13) : FC I (gUI I' 4 0 0 d x) := fun a b c d2 h1 h2 => by
  rw [gUI_at, if_neg (by omega)]
  exact h a b c d2 h1 h2
theorem FC.up2 {I' : gI} {a0 d : Nat} {x : Int32} (h : FC I I') (ha : 6 ≤ a0 ∧ a0 ≤ 12) : FC I (gUI I' a0 2 0 d x) := fun a b c d2 h1 h2 => by
  rw [gUI_at, if_neg (by omega)]
  exact h a b c d2 h1 h2
theorem CRw.to {I' : gI} (h : CRw f I) (g : ∀ a d, 6 ≤ a → a ≤ 12 → I' a 2 0 d = I a 2 0 d) : CRw f I' := by
  obtain ⟨h1, h2, h3, h4, h5, h6⟩ := h
  exact ⟨(g 6 0 (by decide) (by decide)).trans h1, (g 6 1 (by decide) (by decide)).trans h2, fun k hk => (g 7 k (by decide) (by decide)).trans (h3 k hk), fun k hk => (g 8 k (by decide) (by decide)).trans (h4 k hk), fun k hk => (g 9 k (by decide) (by decide)).trans (h5 k hk), (g 6 9 (by decide) (by decide)).trans h6⟩
theorem CB.f4 {I' : gI} (h : CB t n f tD bb I) (g : F4 I I') : CB t n f tD bb I' := by
  obtain ⟨h1, h2, h3, h4, h5, h6⟩ := h
  refine ⟨h1.f4 g, h2.to fun a d z1 z2 => g a 2 0 d (by omega), ?_, ?_, (g 4 0 0 11 (by omega)).trans h5, (g 4 0 0 3 (by omega)).trans h6⟩
  · rw [g 4 0 0 12 (by omega)]; exact h3
  · rw [g 4 0 0 13 (by omega)]; exact h4
theorem CB.up {d : Nat} {x : Int32} (h : CB t n f tD bb I) (hd : d = 9 ∨ d = 10) : CB t n f tD bb (gUI I 4 0 0 d x) := by
  obtain ⟨h1, h2, h3, h4, h5, h6⟩ := h
  refine ⟨⟨(if_neg (by omega)).trans h1.1, fun q hq => (congrArg (· &&& gi 255) (if_neg (by omega))).trans (h1.2 q hq)⟩, h2.to fun a d z1 z2 => if_neg (by omega), ?_, ?_, (if_neg (by omega)).trans h5, (if_neg (by omega)).trans h6⟩
  · rw [gUI_at, if_neg (by omega)]; exact h3
  · rw [gUI_at, if_neg (by omega)]; exact h4
theorem CB.told {x : Int32} {tD' : Nat → Bool} (h : CB t n f tD bb I) (h1 : BD x tD') (h2 : BR (I 4 0 0 13) tD') : CB t n f tD' bb (gUI I 4 0 0 12 x) := by
  obtain ⟨g1, g2, g3, g4, g5, g6⟩ := h
  refine ⟨⟨(if_neg (by omega)).trans g1.1, fun q hq => (congrArg (· &&& gi 255) (if_neg (by omega))).trans (g1.2 q hq)⟩, g2.to fun a d z1 z2 => if_neg (by omega), ?_, ?_, (if_neg (by omega)).trans g5, (if_neg (by omega)).trans g6⟩
  · rw [gu_s]; exact h1
  · rw [gUI_at, if_neg (by omega)]; exact h2
theorem z_l74 (hb : Tb t n) (p0 C : Nat) (hC1 : 1 ≤ C) (hlo : lo + 6 = (p0 : Int)) (hC : p0 + C ≤ 13) (k2 : Tok) (hk2 : Tkk n k2) (hR : CB t n f tD bb I) (a1 : I 4 0 0 4 = gi k2.1) (a2 : I 4 0 0 7 = gi k2.2.1) (a9 : I 4 0 0 9 = gi lo) (a10 : I 4 0 0 10 = gi (lo + (C : Int) - 1)) (kA : anB tD p0 C = false → ∀ I', FC I I' → CB t n f (fillB tD p0 C) bb I' → Tk (nx t n k2) I' → I' 4 0 0 9 = gi lo → I' 4 0 0 10 = gi (lo + (C : Int) - 1) → Q (.inl (.int (gi 1))) I' J B) (kE : anB tD p0 C = true → ∀ I', FC I I' → I' 4 0 0 3 = gi 3 → I' 4 0 0 4 = gi k2.1 → Q (.inl (.int (gi 0))) I' J B) : ∀ (j i : Nat) (x : Int32), C - i = j → i ≤ C → RMk x p0 i → gG E 25 74 [(0, .inr (4, 0, 0)), (3, .inl (.int x)), (4, .inl (.int (gi (lo + (i : Int)))))] [] I J B c w Q X := by
  intro j
  induction j with
  | zero =>
    intro i x h1 h2 hx
    have hi : i = C := by omega
    subst hi
    have hz := hR.2.2.1.any hx hC
    refine s_X3_readRange_74 ⟨fun _ => ⟨fun z => ?_, fun z => ?_⟩, fun z => by rw [a10, gi_lt (by omega) (by omega) (by omega) (by omega)] at z; omega⟩
    · rw [hz] at z
      have hR' : CB t n f (fillB tD p0 i) bb (gUI I 4 0 0 12 (I 4 0 0 12 ||| x)) := hR.told (hR.2.2.1.or hx) (hR.2.2.2.1.fill hC)
      refine z_adv hb hR'.1 ((gu_o (by decide)).trans a2) hk2.2.1 fun I' f' hK' => ?_
      exact ⟨Or.inr rfl, kA z I' ((FC.rf.up4 (by omega)).tr f'.fc) (hR'.f4 f') hK' ((f' 4 0 0 9 (by omega)).trans ((gu_o (by decide)).trans a9)) ((f' 4 0 0 10 (by omega)).trans ((gu_o (by decide)).trans a10))⟩
    · rw [hz] at z
      exact z_fl1 (kE (by revert z; cases anB tD p0 i <;> simp) _ (FC.rf.up4 (by omega)) gu_s ((gu_o (by decide)).trans a1))
  | succ j ih =>
    intro i x h1 h2 hx
    refine s_X3_readRange_74 ⟨fun z => by rw [a10, gi_lt (by omega) (by omega) (by omega) (by omega)] at z; omega, fun _ => ?_⟩
    rw [show gi (lo + (i : Int)) + gi 7 - gi 1 = gi ((p0 + i : Nat) : Int) by rw [gi_add, gi_sub]; exact congrArg gi (by omega), show gi (lo + (i : Int)) + gi 1 = gi (lo + ((i + 1 : Nat) : Int)) by rw [gi_add]; exact congrArg gi (by omega)]
    exact ih (i + 1) _ (by omega) (by omega) (hx.nxt (by omega))
theorem CB.put {p1 : Nat} {f2 : Nat → Int} (h : CB t n f tD bb I) (hp : p1 < 13) (h2 : ∀ j, f2 j = if j = 2 + p1 then v else f j) : CB t n f2 tD bb (gUI I 7 2 0 p1 (gi v)) := by
  obtain ⟨g1, g2, g3, g4, g5, g6⟩ := h
  obtain ⟨r1, r2, r3, r4, r5, r6⟩ := g2
  refine ⟨⟨(if_neg (by omega)).trans g1.1, fun q hq => (congrArg (· &&& gi 255) (if_neg (by omega))).trans (g1.2 q hq)⟩, ⟨?_, ?_, fun i hi => ?_, fun i hi => ?_, fun i hi => ?_, ?_⟩, ?_, ?_, (if_neg (by omega)).trans g5, (if_neg (by omega)).trans g6⟩
  · rw [h2, if_neg (by omega)]; exact (if_neg (by omega)).trans r1
  · rw [h2, if_neg (by omega)]; exact (if_neg (by omega)).trans r2
  · rw [gUI_at, h2]
    by_cases z : i = p1
    · rw [if_pos ⟨rfl, rfl, rfl, z⟩, if_pos (by omega)]
    · rw [if_neg (fun y => z y.2.2.2), if_neg (by omega)]
      exact r3 i hi
  · rw [h2, if_neg (by omega)]; exact (if_neg (by omega)).trans (r4 i hi)
  · rw [h2, if_neg (by omega)]; exact (if_neg (by omega)).trans (r5 i hi)
  · rw [h2, if_neg (by omega)]; exact (if_neg (by omega)).trans r6
  · rw [gUI_at, if_neg (by omega)]; exact g3
  · rw [gUI_at, if_neg (by omega)]; exact g4
theorem z_l19 (hb : Tb t n) (p0 C : Nat) (hlo : lo + 6 = (p0 : Int)) (hC : p0 + C ≤ 13) (k2 : Tok) (hk2 : Tkk n k2) {I0 : gI} (a10 : I0 4 0 0 10 = gi (lo + (C : Int) - 1)) (a8 : I0 4 0 0 8 = gi v) (a7 : I0 4 0 0 7 = gi k2.2.1) (kA : ∀ I', FC I0 I' → CB t n (fillF f p0 C v) tD bb I' → Tk (nx t n k2) I' → Q (.inl (.int (gi 1))) I' J B) : ∀ (j i : Nat) (I : gI), C - i = j → i ≤ C → (∀ a b c d, ¬ (a = 7 ∧ b = 2) → I a b c d = I0 a b c d) → CB t n (fillF f p0 i v) tD bb I → gG E 26 19 [(0, .inr (4, 0, 0)), (1, .inl (.int (gi (lo + (i : Int)))))] [] I J B c w Q X := by
  intro j
  induction j with
  | zero =>
    intro i I h1 h2 fr hR
    have hi : i = C := by omega
    subst hi
    refine s_X3_readRangeValue_19 ⟨fun _ => ?_, fun z => by rw [fr 4 0 0 10 (by omega), a10, gi_lt (by omega) (by omega) (by omega) (by omega)] at z; omega⟩
    refine z_adv hb hR.1 ((fr 4 0 0 7 (by omega)).trans a7) hk2.2.1 fun I' f' hK' => ⟨Or.inr rfl, kA I' (FC.tr (fun a b c d z1 z2 => fr a b c d (by omega)) f'.fc) (hR.f4 f') hK'⟩
  | succ j ih =>
    intro i I h1 h2 fr hR
    refine s_X3_readRangeValue_19 ⟨fun z => by rw [fr 4 0 0 10 (by omega), a10, gi_lt (by omega) (by omega) (by omega) (by omega)] at z; omega, fun _ => ?_⟩
    rw [fr 4 0 0 8 (by omega), a8]
    refine z_putAlong (by omega) (by omega) ?_
    show gG _ _ _ _ _ _ _ _ _ _ _ _
    rw [show gi (lo + (i : Int)) + gi 1 = gi (lo + ((i + 1 : Nat) : Int)) by rw [gi_add]; exact congrArg gi (by omega), show (lo + (i : Int) + 6).toNat = p0 + i by omega]
    refine ih (i + 1) _ (by omega) (by omega) (fun a b c d z => (if_neg (by omega)).trans (fr a b c d z)) (hR.put (by omega) fun j => ?_)
    unfold fillF
    by_cases y : j = 2 + (p0 + i)
    · rw [if_pos (by omega), if_pos y]
    · rw [if_neg y]
      by_cases y2 : 2 + p0 ≤ j ∧ j < 2 + p0 + i
      · rw [if_pos (by omega), if_pos y2]
      · rw [if_neg (by omega), if_neg y2]
theorem z_rangeV (hb : Tb t n) (p0 C : Nat) (hlo : lo + 6 = (p0 : Int)) (hC : p0 + C ≤ 13) (hk : Tkk n k) (hK : Tk k I) (hR : CB t n f tD bb I) (a9 : I 4 0 0 9 = gi lo) (a10 : I 4 0 0 10 = gi (lo + (C : Int) - 1)) (kA : ner t n k true (-50) 50 = 0 → ∀ I', FC I I' → CB t n (fillF f p0 C (nv t n k true)) tD bb I' → Tk (nx t n (nk t n k true)) I' → Q (.inl (.int (gi 1))) I' J B) (kE : ∀ er, er ≠ 0 → ner t n k true (-50) 50 = er → ∀ I', FC I I' → I' 4 0 0 3 = gi er → I' 4 0 0 4 = gi (nk t n k true).1 → Q (.inl (.int (gi 0))) I' J B) : gC E 26 [.inr (4, 0, 0)] I J B Q X := by
  refine e_X3_readRangeValue (z_rn true hb hR.1 hk hK (by decide) (by decide) (by decide) (by decide) (fun z I' f' b4 b7 b8 => And.intro (fun _ => ?_) (fun y => absurd y g10)) (fun er he z I' f' b3 b4 => And.intro (fun y => absurd rfl y) (fun _ => ⟨Or.inl rfl, kE er he z I' f'.fc b3 b4⟩)))
  · rw [(f' 4 0 0 9 (by omega)).trans a9]
    have g := z_l19 (E := E) (Q := Q) (X := X) (J := J) (B := B) (c := 0) (w := 0) (f := f) (tD := tD) (bb := bb) hb p0 C hlo hC (nk t n k true) (nk_ok hk) ((f' 4 0 0 10 (by omega)).trans a10) b8 b7 (fun I2 f2 hR2 hK2 => kA z I2 (f'.fc.tr f2) hR2 hK2) C 0 I' rfl (Nat.zero_le _) (fun _ _ _ _ _ => rfl) (by
      rw [show fillF f p0 0 (nv t n k true) = f from funext fun j => if_neg (by omega)]
      exact hR.f4 f')
    rw [show lo + ((0 : Nat) : Int) = lo by omega] at g
    exact g
end YC2
